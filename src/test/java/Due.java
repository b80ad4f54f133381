/** What the tests share: an answer held against the one that is due, and texts put on the tape. */
final class Due {
    static final long WHOLE = 1_000_000_000_000L;
    static final int LEAST = Integer.MIN_VALUE;
    static final int MOST = Integer.MAX_VALUE;
    private static final int MOST_TOLD = 40;

    private final String test;
    private int asked = 0;
    private int wrong = 0;
    private int sentences = 0;
    private int askedAhead = 0;
    private String about = "";

    Due(String test) {
        this.test = test;
    }

    void promise(int number, String name) {
        about = "promise " + number + " " + name;
    }

    /** What is asked from here on holds these words of the document, which stand there. */
    void says(String where, String words) {
        heardOut();
        sentences++;
        about = where + ", \"" + words + "\"";
    }

    void says(int promise, String words) {
        says("promise " + promise, words);
    }

    /** A sentence of which nothing was asked is not tested. */
    private void heardOut() {
        if (sentences > 0 && asked == askedAhead) {
            wrong++;
            System.out.println(test + ": " + about + ": nothing was asked");
        }
        askedAhead = asked;
    }

    void is(long want, long got, String what) {
        asked++;
        if (want != got) {
            wrong++;
            if (wrong <= MOST_TOLD) {
                System.out.println(test + ": " + about + ": " + what + ": answered " + got + ", due is " + want);
            }
        }
    }

    void so(boolean good, String what) {
        is(1, good ? 1 : 0, what);
    }

    void end() {
        heardOut();
        String of = sentences == 0 ? "" : " of " + sentences + " sentences";
        System.out.println(test + ": " + asked + " asked" + of + ", " + wrong + " wrong");
        if (wrong != 0) {
            System.exit(1);
        }
    }

    /** The fault of a law that can't be, NONE of one that can. */
    void lawFault(String text, int place) {
        WallsLeft x = new WallsLeft();
        is(place == -1 ? 0 : -6, law(x, text), "law of '" + text + "'");
        is(place, x.fault(), "fault of law '" + text + "'");
        is(0, x.count(7), "tape behind law '" + text + "'");
    }

    void ordersFault(String text, int place) {
        WallsLeft x = new WallsLeft();
        int told = orders(x, text);
        so((told == -6) == (place != -1), "orders of '" + text + "' told " + told);
        is(place, x.fault(), "fault of orders '" + text + "'");
        is(0, x.count(7), "tape behind orders '" + text + "'");
    }

    /** What a sum comes to in a law, told by how many thousandths one dies (0 .. 1,000); 77 if it is BROKEN. */
    void sum(String sum, int want) {
        WallsLeft x = with(77);
        force(x, "dies " + sum);
        is(want, x.of(0, 4), "sum " + sum);
    }

    /** Whether a test is so: 1, 0; BROKEN is told as not so, and so is its "not". */
    void test(String test, int want) {
        WallsLeft x = with(77);
        force(x, "dies 1 if " + test);
        is(want == 1 ? 1 : 77, x.of(0, 4), "test " + test);
    }

    /** Neither it nor its "not" is so: it is BROKEN. */
    void broken(String test) {
        test(test, 0);
        test("not (" + test + ")", 0);
    }

    /** The text alone on the tape. */
    static WallsLeft tape(WallsLeft x, String text) {
        x.end(0);
        String padded = text + " ".repeat(20);
        for (int i = 0; i < text.length(); i += 20) {
            int[] five = new int[5];
            for (int j = 0; j < 20; j++) {
                five[j / 4] = five[j / 4] << 8 | padded.charAt(i + j) & 255;
            }
            x.feed(five[0], five[1], five[2], five[3], five[4]);
        }
        x.end(text.length());
        return x;
    }

    static int law(WallsLeft x, String text) {
        return tape(x, text).law();
    }

    /** The text becomes a law that is in force. */
    static int force(WallsLeft x, String text) {
        int law = law(x, text);
        x.force(law);
        return law;
    }

    static int orders(WallsLeft x, String text) {
        return tape(x, text).orders();
    }

    /** These bytes are read as a ROW. */
    static int row(WallsLeft x, int... bytes) {
        StringBuilder b = new StringBuilder();
        for (int one : bytes) {
            b.append((char) one);
        }
        return tape(x, b.toString()).row();
    }

    /** Builders of these ages, each of pace 1. */
    static WallsLeft with(int... ages) {
        WallsLeft x = new WallsLeft();
        for (int age : ages) {
            x.builder(age, 1);
        }
        return x;
    }

    /** A builder lays so many courses on the plot, and is on it if they are fewer than nine. */
    static void wall(WallsLeft x, int builder, int plot, int courses) {
        x.begin(builder, plot);
        for (int i = 0; i < courses; i++) {
            x.lay(builder);
        }
    }

    /** The draws of CENTURIES with a SEED: what s is behind so many of them. */
    static int drawn(int seed, int draws) {
        long s = seed;
        for (int i = 0; i < draws; i++) {
            s = (s * 1103 + 12345) % 1_000_003;
        }
        return (int) s;
    }
}
