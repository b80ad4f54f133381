/** What the tests share: an answer held against the one that is due, and texts put on the tape. */
final class Due {
    private final String test;
    private int asked = 0;
    private int wrong = 0;
    private String about = "";

    Due(String test) {
        this.test = test;
    }

    void promise(int number, String name) {
        about = "promise " + number + " " + name;
    }

    void is(long want, long got, String what) {
        asked++;
        if (want != got) {
            wrong++;
            System.out.println(test + ": " + about + ": " + what + ": answered " + got + ", due is " + want);
        }
    }

    void so(boolean good, String what) {
        is(1, good ? 1 : 0, what);
    }

    void end() {
        System.out.println(test + ": " + asked + " asked, " + wrong + " wrong");
        if (wrong != 0) {
            System.exit(1);
        }
    }

    /** The text alone on the tape. */
    static WallsLeft tape(WallsLeft x, String text) {
        x.end(0);
        String padded = text + " ".repeat(20);
        for (int i = 0; i < text.length(); i += 20) {
            int[] five = new int[5];
            for (int j = 0; j < 20; j++) {
                five[j / 4] = five[j / 4] << 8 | padded.charAt(i + j) & 255;
            }
            x.feed(five[0], five[1], five[2], five[3], five[4]);
        }
        x.end(text.length());
        return x;
    }

    static int law(WallsLeft x, String text) {
        return tape(x, text).law();
    }

    /** The text becomes a law that is in force. */
    static int force(WallsLeft x, String text) {
        int law = law(x, text);
        x.force(law);
        return law;
    }

    static int orders(WallsLeft x, String text) {
        return tape(x, text).orders();
    }

    /** Builders of these ages, each of pace 1. */
    static WallsLeft with(int... ages) {
        WallsLeft x = new WallsLeft();
        for (int age : ages) {
            x.builder(age, 1);
        }
        return x;
    }
}
