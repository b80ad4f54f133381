/** Promises 1 to 41: each sentence that names a boundary case by a test of its own, headed by its words. */
public final class EdgesTest {
    private static final Due due = new Due("EdgesTest");
    private static final long WHOLE = Due.WHOLE;
    private static final int LEAST = Due.LEAST;
    private static final int MOST = Due.MOST;
    private static final int[] NO_PLOTS = {-1, 16, 17, LEAST, MOST};

    public static void main(String[] args) {
        bareStreet();
        fiveHundredAndTwelve();
        builder();
        of();
        at();
        can();
        terms();
        feed();
        feedTooMany();
        end();
        row();
        bubbles();
        lawNoRoom();
        lawBadText();
        lawLeaves();
        orders();
        ordersBadText();
        fault();
        faultNone();
        stopped();
        stoppedNone();
        force();
        forceMissing();
        begin();
        beginRefused();
        lay();
        layRefused();
        die();
        dieRefused();
        pass();
        passRefused();
        undoKinds();
        undoByOrders();
        undoSixteen();
        undoAsTheyWere();
        undoNone();
        undoAhead();
        chanceOfTheDead();
        chanceWhatever();
        chanceNone();
        yearsNone();
        lives();
        livesNone();
        plan();
        planNone();
        bridge();
        bridgeDead();
        bridgeNone();
        stair();
        stretch();
        rooms();
        seat();
        seen();
        seenLeaves();
        forget();
        canBe();
        look();
        few();
        compare();
        centuries();
        centuriesRefused();
        drawn();
        drawnNone();
        image();
        back();
        backMissing();
        count();
        countRefused();
        countNone();
        statusOfEach();
        statusStays();
        due.end();
    }

    private static int[] noBuilders(int many) {
        return new int[] {-1, many, many + 1, LEAST, MOST};
    }

    // ---- 1

    private static void bareStreet() {
        due.says(1, "A bare street");
        WallsLeft x = new WallsLeft();
        for (int plot = 0; plot < 16; plot++) {
            due.is(0, x.at(plot, 0), "no courses");
            due.is(0, x.at(plot, 1), "not left");
            due.is(-1, x.at(plot, 2), "nobody");
            due.is(0, x.at(plot, 3), "worth nothing");
        }
        int[] counts = {0, 0, 0, 0, 0, 0, 0, 0, 0, 0, 0, 0, 0, -1, 0, 1, 0};
        for (int what = 0; what < counts.length; what++) {
            due.is(counts[what], x.count(what), "count " + what);
        }
        due.is(0, x.canBe(), "nobody");
        due.is(0, x.plan(63, -1), "nobody to plan");
        due.is(16, x.stretch(1, 0), "a stretch");
        due.is(-1, x.drawn(0, 0), "no centuries");
        due.is(-2, x.back(0), "no image");
        due.is(-2, x.back(1), "no image");
        due.is(-3, x.undo(), "nothing to undo");
        due.is(-1, WallsLeft.NONE, "NONE = -1");
        x.builder(30, 1);
        due.is(0, new WallsLeft().count(0), "each object has its own street");
    }

    private static void fiveHundredAndTwelve() {
        due.says("What it is", "An object is used for at most 512 calls after it has been made");
        WallsLeft x = new WallsLeft();
        int wrong = 0;
        for (int year = 0; year < 511; year++) {
            wrong += x.pass() == 0 ? 0 : 1;
        }
        due.is(0, wrong, "511 calls");
        due.is(511, x.count(14), "the last call");
        WallsLeft full = Due.with(30, 30, 30, 30, 30, 30);
        Due.force(full, "lays 0; dies 1 if plot > 7");
        for (int i = 0; i < 100; i++) {
            wrong += full.plan(0xfc00, -1) == 0 && full.plan(0xfc00, 5) == 15 ? 0 : 1;
            wrong += full.centuries(i, 60) >= 0 && full.image(i % 2) == 0 && full.back(i % 2) == 0 ? 0 : 1;
        }
        due.is(0, wrong, "500 calls, the dearest ones");
    }

    // ---- 2 .. 6

    private static void builder() {
        due.says(2, "A BUILDER: his number. -1; -5");
        WallsLeft x = new WallsLeft();
        int[][] bad = {{15, 1}, {100, 1}, {16, 0}, {99, 4}, {15, 0}, {LEAST, 1}, {MOST, 1}, {50, LEAST}, {50, MOST}};
        for (int[] one : bad) {
            due.is(-1, x.builder(one[0], one[1]), "builder " + one[0] + ", " + one[1]);
            due.is(-1, x.status(), "refused");
            due.is(0, x.count(0), "nobody came");
        }
        for (int i = 0; i < 6; i++) {
            due.is(i, x.builder(16 + i, 1 + i % 3), "his number");
            due.is(0, x.status(), "not refused");
        }
        due.is(-5, x.builder(30, 1), "no room");
        due.is(-5, x.status(), "no room");
        due.is(21, x.of(5, 0), "the sixth stays");
    }

    private static void of() {
        due.says(3, "Of a BUILDER AGE (what 0), PACE (1), whether ALIVE (2: 1, 0), the PLOT ON which he is (3; NONE) ... (4) ... (5). NONE");
        WallsLeft x = new WallsLeft();
        x.builder(30, 2);
        x.builder(41, 3);
        x.begin(1, 0);
        int[][] want = {{30, 2, 1, -1, 30, 2}, {41, 3, 1, 0, 41, 3}};
        for (int one = 0; one < 2; one++) {
            for (int what = 0; what < 6; what++) {
                due.is(want[one][what], x.of(one, what), "builder " + one + ", what " + what);
            }
            for (int what : new int[] {-1, 6, 7, LEAST, MOST}) {
                due.is(-1, x.of(one, what), "what " + what);
            }
        }
        Due.force(x, "dies plot + 9; lays builder + 4");
        x.of(1, 5);
        due.is(4, x.of(0, 5), "of the one who is asked of");
        due.is(5, x.of(1, 5), "of the one who is asked of");
        due.is(9, x.of(1, 4), "of the one who is asked of");
        due.is(8, x.of(0, 4), "of the one who is asked of");
        x.die(1);
        due.is(0, x.of(1, 2), "0: dead");
        due.is(-1, x.of(1, 3), "on none");
        for (int one : noBuilders(2)) {
            for (int what = 0; what < 6; what++) {
                due.is(-1, x.of(one, what), "builder " + one);
            }
        }
    }

    private static void at() {
        due.says(4, "Of a PLOT COURSES (what 0), whether LEFT (1: 1, 0), the BUILDER ON it (2; NONE), what it is WORTH (3). NONE");
        WallsLeft x = Due.with(30, 40);
        Due.wall(x, 1, 0, 4);
        Due.wall(x, 0, 15, 0);
        int[][] want = {{4, 0, 1, 4}, {0, 0, 0, 0}};
        for (int what = 0; what < 4; what++) {
            due.is(want[0][what], x.at(0, what), "plot 0, what " + what);
            due.is(want[1][what], x.at(15, what), "plot 15, what " + what);
            for (int plot : NO_PLOTS) {
                due.is(-1, x.at(plot, what), "plot " + plot);
            }
        }
        for (int what : new int[] {-1, 4, 5, LEAST, MOST}) {
            due.is(-1, x.at(0, what), "what " + what);
        }
        x.die(1);
        due.is(1, x.at(0, 1), "1: left");
        due.is(-1, x.at(0, 2), "nobody");
        due.is(-1, x.at(7, 2), "nobody, though some are free");
    }

    private static void can() {
        due.says(5, "Whether a BUILDER could BEGIN a PLOT (1, 0). NONE");
        WallsLeft x = Due.with(30, 40);
        due.is(1, x.can(0, 0), "the first plot");
        due.is(1, x.can(1, 15), "the last plot");
        x.begin(0, 15);
        due.is(0, x.can(1, 15), "somebody is on it");
        due.is(0, x.can(0, 3), "he is on a plot");
        x.die(1);
        due.is(0, x.can(1, 3), "he is dead");
        due.is(2, x.count(6), "nothing is begun by it");
        for (int plot : NO_PLOTS) {
            due.is(-1, x.can(0, plot), "plot " + plot);
            due.is(-1, x.can(1, plot), "of the dead, plot " + plot);
        }
        for (int one : noBuilders(2)) {
            due.is(-1, x.can(one, 0), "builder " + one);
        }
    }

    private static void terms() {
        due.says(6, "A TERM: what it was. -1");
        WallsLeft x = new WallsLeft();
        due.is(0, x.terms(0, 999), "year");
        due.is(999, x.terms(0, 0), "year");
        due.is(1, x.terms(1, 10), "slips");
        due.is(10, x.terms(1, 0), "slips");
        due.is(0, x.terms(2, 9), "mood");
        due.is(9, x.terms(2, 0), "mood");
        int[][] bad = {{0, -1}, {0, 1000}, {1, -1}, {1, 11}, {2, -1}, {2, 10}, {-1, 0}, {3, 0}, {3, -1}, {4, -1}, {-1, -1},
            {LEAST, 0}, {MOST, 0}, {0, LEAST}, {0, MOST}};
        for (int[] one : bad) {
            due.is(-1, x.terms(one[0], one[1]), "terms " + one[0] + ", " + one[1]);
            due.is(-1, x.status(), "refused");
        }
        due.is(bad.length, x.count(8), "each is counted");
        for (int what = 0; what < 3; what++) {
            due.is(0, x.count(14 + what), "none was changed");
        }
    }

    // ---- 7 .. 10

    private static void feed() {
        due.says(7, "Twenty bytes come behind the TAPE, four of each number, the highest first: how many it has");
        WallsLeft x = new WallsLeft();
        due.is(20, x.feed(0x10011102, 0x12031301, 0x14020000, 0, 0), "twenty");
        due.is(10, x.end(10), "ten stay");
        due.is(30, x.feed(0x15030F01, -1, LEAST, MOST, 0), "behind the ten");
        due.is(6, x.row(), "the highest byte first");
        for (int i = 0; i < 6; i++) {
            due.is(16 + i, x.of(i, 0), "age");
            due.is(1 + i % 3, x.of(i, 1), "pace");
        }
        due.is(9, x.bubbles(), "bytes of 0 .. 255");
        // "dies 5", by five numbers with blanks, the last of them a byte below 0.
        x.feed(0x64696573, 0x20352020, 0x20202020, 0x20202020, 0x202020FF);
        due.is(-6, x.law(), "byte 255");
        due.is(19, x.fault(), "the twentieth");
    }

    private static void feedTooMany() {
        due.says(7, "NONE, if there would be more than 400");
        WallsLeft x = new WallsLeft();
        for (int i = 1; i <= 20; i++) {
            due.is(20 * i, x.feed(0x1E012E02, 0, 0, 0, 0), "up to 400");
        }
        due.is(-1, x.feed(1, 2, 3, 4, 5), "420");
        due.is(400, x.count(7), "as it was");
        for (int n = 399; n > 380; n--) {
            due.is(n, x.end(n), "end");
            due.is(-1, x.feed(1, 2, 3, 4, 5), (n + 20) + " are too many");
            due.is(n, x.count(7), "as it was");
        }
        x.end(380);
        due.is(400, x.feed(0x14010000, 0, 0, 0, 0), "400");
        due.is(0, x.status(), "nothing is refused");
        due.is(6, x.row(), "what stood there stays");
    }

    private static void end() {
        due.says(8, "The TAPE has its first n bytes alone: n. NONE, if it has not so many, or n is below 0");
        WallsLeft x = new WallsLeft();
        due.is(-1, x.end(1), "an empty tape");
        due.is(0, x.end(0), "none of none");
        x.feed(0x14011502, 0x16030000, 0, 0, 0);
        due.is(-1, x.end(21), "not so many");
        due.is(-1, x.end(MOST), "not so many");
        due.is(-1, x.end(-1), "below 0");
        due.is(-1, x.end(LEAST), "below 0");
        due.is(20, x.count(7), "as it was");
        due.is(20, x.end(20), "all of them");
        due.is(6, x.end(6), "the first six");
        due.is(-1, x.end(7), "what is gone is gone");
        due.is(3, x.row(), "the first six alone");
        due.is(0, x.bubbles(), "the first six alone");
        x.feed(0, 0, 0, 0, 0);
        due.is(0, x.end(0), "none");
        due.is(-6, x.row(), "the tape is empty");
    }

    private static void row() {
        due.says(9, "A ROW, the TAPE is empty then: how many BUILDERS came. -6 the TAPE is empty");
        WallsLeft x = new WallsLeft();
        due.is(-6, x.row(), "empty at first");
        due.is(-6, x.status(), "refused");
        due.is(2, Due.row(x, 30, 1, 15, 1, 99, 3), "two came");
        due.is(0, x.status(), "not refused");
        due.is(0, x.count(7), "the tape is empty");
        due.is(-6, x.row(), "the tape is empty");
        due.is(2, x.count(0), "two");
        due.is(0, Due.row(x, 32), "a byte alone, though it is a blank");
        due.is(0, x.status(), "nobody came, not refused");
        due.is(4, Due.row(x, 31, 1, 32, 2, 33, 3, 34, 1, 35, 2), "room for four");
        due.is(0, Due.row(x, 31, 1), "no room is not refused");
        due.is(0, x.status(), "no room is not refused");
        int[] ages = {30, 99, 31, 32, 33, 34};
        for (int i = 0; i < 6; i++) {
            due.is(ages[i], x.of(i, 0), "one behind the other");
        }
    }

    private static void bubbles() {
        due.says(10, "How many BUBBLES the latest row() had that was not REFUSED (0 ahead of any)");
        WallsLeft x = new WallsLeft();
        due.is(0, x.bubbles(), "ahead of any");
        x.row();
        due.is(0, x.bubbles(), "behind a refused one");
        Due.row(x, 1, 1, 2, 2, 3);
        due.is(3, x.bubbles(), "three");
        x.row();
        due.is(3, x.bubbles(), "three still");
        Due.row(x, 30, 1);
        due.is(0, x.bubbles(), "none");
        Due.row(x, 0, 0);
        due.is(1, x.bubbles(), "of the latest alone");
    }

    // ---- 11 .. 15

    private static void lawNoRoom() {
        due.says(11, "-5 (ahead of reading it; the TAPE is empty then, too)");
        WallsLeft x = Due.with(30);
        Due.law(x, "dies ?");
        due.is(5, x.fault(), "a fault");
        for (int i = 0; i < 6; i++) {
            due.is(i, Due.law(x, "dies " + i), "its number");
            due.is(0, x.count(7), "the tape is empty");
            due.is(0, x.status(), "not refused");
        }
        due.is(-1, x.fault(), "none");
        due.is(-5, Due.law(x, "lays"), "no room, though it can't be read");
        due.is(-5, x.status(), "no room");
        due.is(-1, x.fault(), "it was not read");
        due.is(0, x.count(7), "the tape is empty");
        due.is(-5, x.law(), "no room, though the tape is empty");
        due.is(6, x.count(5), "six");
        x.image(0);
        due.is(5, x.compare(5, 0), "the sixth is the sixth");
    }

    private static void lawBadText() {
        due.says(11, "-6 (blanks alone: FAULT at the end)");
        WallsLeft x = new WallsLeft();
        due.is(-6, x.law(), "an empty tape");
        due.is(0, x.fault(), "at the end");
        for (int n : new int[] {1, 2, 20, 399, 400}) {
            due.is(-6, Due.law(x, " ".repeat(n)), "blanks alone");
            due.is(n, x.fault(), "at the end");
            due.is(0, x.count(7), "the tape is empty");
        }
        due.is(-6, Due.law(x, "dies 5; dies"), "the second clause can't be read");
        due.is(-6, x.status(), "refused");
        due.is(0, x.count(5), "no law came of it");
        due.is(7, x.count(12), "each is counted");
        due.is(0, Due.law(x, "dies 5"), "the first law");
    }

    private static void lawLeaves() {
        due.says(11, "It leaves what can be undone");
        WallsLeft x = Due.with(30);
        x.pass();
        x.pass();
        Due.law(x, "dies 1");
        due.is(2, x.count(6), "a law");
        Due.law(x, "dies");
        due.is(2, x.count(6), "a refused one");
        due.is(3, x.undo(), "a year");
        due.is(1, x.count(5), "the law stays");
        due.is(3, x.undo(), "a year");
        due.is(30, x.of(0, 0), "age");
    }

    private static void orders() {
        due.says(12, "ORDERS, the TAPE is empty then: how many were run. -3 one can't be");
        WallsLeft x = Due.with(30, 40);
        due.is(0, Due.orders(x, "pass if 1 = 2"), "none");
        due.is(0, x.status(), "not refused");
        due.is(0, x.count(7), "the tape is empty");
        due.is(1, Due.orders(x, "pass"), "one");
        due.is(240, Due.orders(x, "pass times 20" + ";pass times 20".repeat(11)), "the most");
        due.is(-3, Due.orders(x, "pass; die 2"), "no such builder");
        due.is(-3, x.status(), "-3, not -2");
        due.is(0, x.count(7), "the tape is empty");
        due.is(-3, Due.orders(x, "begin 0 at 16"), "no such plot");
        due.is(-3, x.status(), "-3, not -1");
        due.is(-3, Due.orders(x, "lay 0"), "he is on none");
        due.is(241, x.count(14), "no year passed");
        due.is(3, x.count(10), "each is counted once");
    }

    private static void ordersBadText() {
        due.says(12, "-6 (as for law())");
        WallsLeft x = Due.with(30);
        due.is(-6, x.orders(), "an empty tape");
        due.is(0, x.fault(), "at the end");
        due.is(-6, Due.orders(x, "     "), "blanks alone");
        due.is(5, x.fault(), "at the end");
        due.is(-6, x.status(), "refused");
        due.is(-6, Due.orders(x, "pass; pass; lay"), "the third can't be read");
        due.is(0, x.count(14), "none was run");
        due.is(0, x.count(6), "none was run");
        due.is(0, x.count(7), "the tape is empty");
        due.is(3, x.count(12), "each is counted");
    }

    private static void fault() {
        due.says(13, "FAULT of the latest law(), orders() that read a TEXT: its place");
        WallsLeft x = Due.with(30);
        Due.law(x, "?");
        due.is(0, x.fault(), "the first byte");
        Due.orders(x, " pass ?");
        due.is(6, x.fault(), "of orders");
        Due.law(x, " ".repeat(399) + "?");
        due.is(399, x.fault(), "the last byte");
        Due.law(x, "dies 1 if 1 = 1" + " ".repeat(385 - 4) + "and ");
        due.is(400, x.fault(), "the end of the longest text");
        x.row();
        Due.row(x, 1, 1);
        x.feed(1, 1, 1, 1, 1);
        x.end(0);
        x.image(0);
        x.back(0);
        due.is(400, x.fault(), "other calls leave it");
    }

    private static void faultNone() {
        due.says(13, "NONE without");
        WallsLeft x = Due.with(30);
        due.is(-1, x.fault(), "ahead of any");
        Due.law(x, "dies");
        Due.law(x, "dies 1");
        due.is(-1, x.fault(), "a law that can be");
        Due.law(x, "dies");
        Due.orders(x, "pass");
        due.is(-1, x.fault(), "orders that can be");
        Due.law(x, "dies");
        Due.orders(x, "die 9");
        due.is(-1, x.fault(), "orders that could be read, though not run");
        for (int i = 0; i < 5; i++) {
            Due.law(x, "dies 1");
        }
        Due.orders(x, "pass ?");
        Due.law(x, "dies 1");
        due.is(5, x.fault(), "no room for a law: it was not read");
    }

    private static void stopped() {
        due.says(14, "Which CLAUSE (0 on) of the latest orders() could not be");
        WallsLeft x = Due.with(30);
        for (int i = 0; i < 12; i++) {
            StringBuilder b = new StringBuilder();
            for (int j = 0; j < 12; j++) {
                b.append(j == 0 ? "" : ";").append(j == i ? "die 7" : "pass times 3");
            }
            Due.orders(x, b.toString());
            due.is(i, x.stopped(), "clause " + i);
        }
        Due.law(x, "dies");
        x.begin(9, 9);
        x.image(0);
        x.back(0);
        due.is(11, x.stopped(), "other calls leave it");
        Due.orders(x, "pass; die 0 times 2; die 7");
        due.is(1, x.stopped(), "the first that could not be");
        Due.orders(x, "pass; die 7 if 1 = 2; die 0; lay 0; die 7");
        due.is(3, x.stopped(), "what is not run can be");
    }

    private static void stoppedNone() {
        due.says(14, "NONE (that was done, or REFUSED by -6; ahead of any)");
        WallsLeft x = Due.with(30);
        due.is(-1, x.stopped(), "ahead of any");
        Due.orders(x, "die 7");
        due.is(0, x.stopped(), "the first clause");
        Due.orders(x, "pass");
        due.is(-1, x.stopped(), "done");
        Due.orders(x, "die 7");
        Due.orders(x, "pass if 1 = 2");
        due.is(-1, x.stopped(), "done, though none was run");
        Due.orders(x, "die 7");
        Due.orders(x, "pass;");
        due.is(-1, x.stopped(), "refused by -6");
        Due.orders(x, "die 7");
        x.orders();
        due.is(-1, x.stopped(), "an empty tape");
    }

    private static void force() {
        due.says(15, "A LAW is in FORCE (NONE: none): which was ... It leaves what can be undone");
        WallsLeft x = Due.with(30);
        Due.law(x, "dies 1");
        Due.law(x, "dies 2");
        x.pass();
        due.is(-1, x.force(-1), "none was, none is");
        due.is(0, x.status(), "not refused");
        due.is(-1, x.force(0), "none was");
        due.is(0, x.status(), "not refused");
        due.is(0, x.force(1), "the first was");
        due.is(1, x.force(1), "the second was, and is");
        due.is(2, x.of(0, 4), "the second");
        due.is(1, x.force(-1), "the second was");
        due.is(31, x.of(0, 4), "none");
        due.is(-1, x.count(13), "none");
        due.is(0, x.count(8), "nothing is refused");
        due.is(1, x.count(6), "what can be undone stays");
        x.force(0);
        due.is(3, x.undo(), "a year");
        due.is(0, x.count(13), "the law stays in force");
    }

    private static void forceMissing() {
        due.says(15, "-2");
        WallsLeft x = Due.with(30);
        due.is(-2, x.force(0), "there are no laws");
        due.is(-2, x.status(), "refused");
        Due.force(x, "dies 1");
        for (int law : new int[] {-2, 1, 2, 5, 6, LEAST, MOST}) {
            due.is(-2, x.force(law), "law " + law);
            due.is(0, x.count(13), "as it was");
        }
        due.is(8, x.count(9), "each is counted");
    }

    // ---- 16 .. 20

    private static void begin() {
        due.says(16, "To BEGIN: how many BUILDERS are FREE and ALIVE then");
        WallsLeft x = Due.with(30, 31, 32, 33, 34, 35);
        due.is(5, x.begin(5, 15), "five, the first among them");
        due.is(4, x.begin(0, 0), "four");
        x.die(1);
        due.is(2, x.begin(2, 3), "without the dead");
        x.die(0);
        due.is(1, x.begin(3, 4), "who died on a plot is not free");
        due.is(0, x.begin(4, 5), "none");
        due.is(0, x.status(), "not refused");
    }

    private static void beginRefused() {
        due.says(16, "-1 (the PLOT); -2; -3");
        WallsLeft x = Due.with(30, 40, 50);
        x.begin(1, 1);
        x.die(2);
        for (int plot : NO_PLOTS) {
            due.is(-1, x.begin(0, plot), "plot " + plot);
            due.is(-1, x.begin(9, plot), "plot " + plot + " ahead of the builder");
            due.is(-1, x.begin(1, plot), "plot " + plot + " ahead of what stands");
        }
        for (int one : noBuilders(3)) {
            due.is(-2, x.begin(one, 0), "builder " + one);
            due.is(-2, x.begin(one, 1), "builder " + one + " ahead of what stands");
        }
        due.is(-3, x.begin(0, 1), "somebody is on it");
        due.is(-3, x.begin(1, 2), "he is on a plot");
        due.is(-3, x.begin(2, 2), "he is dead");
        due.is(2, x.count(6), "nothing was done");
        due.is(-1, x.of(0, 3), "free");
        due.is(15, x.count(8), "-1");
        due.is(10, x.count(9), "-2");
        due.is(3, x.count(10), "-3");
    }

    private static void lay() {
        due.says(17, "To LAY: COURSES of the PLOT then");
        WallsLeft x = Due.with(30, 31);
        x.begin(1, 15);
        for (int i = 1; i <= 9; i++) {
            due.is(i, x.lay(1), "one more");
            due.is(i, x.at(15, 0), "one more");
        }
        due.is(0, x.at(0, 0), "on his plot alone");
        due.is(10, x.count(6), "each can be undone");
    }

    private static void layRefused() {
        due.says(17, "-2; -3 (he is ON none)");
        WallsLeft x = Due.with(30, 31);
        for (int one : noBuilders(2)) {
            due.is(-2, x.lay(one), "builder " + one);
        }
        due.is(-3, x.lay(0), "he has begun nothing");
        Due.wall(x, 0, 3, 9);
        due.is(-3, x.lay(0), "it is done");
        x.begin(0, 4);
        x.die(0);
        due.is(-3, x.lay(0), "he is dead");
        due.is(9, x.at(3, 0), "nine");
        due.is(0, x.at(4, 0), "none");
        due.is(12, x.count(6), "nothing more was done");
    }

    private static void die() {
        due.says(18, "To DIE: COURSES of what is LEFT by it (0: nothing)");
        WallsLeft x = Due.with(30, 31, 32, 33);
        Due.wall(x, 0, 3, 9);
        due.is(0, x.die(0), "his wall is done: nothing is left");
        due.is(0, x.count(2), "nothing is left");
        Due.wall(x, 1, 4, 8);
        due.is(8, x.die(1), "eight");
        x.begin(2, 5);
        due.is(0, x.die(2), "left, without a course");
        due.is(1 << 4 | 1 << 5, x.count(2), "two are left");
        due.is(0, x.die(3), "free: nothing");
        due.is(1 << 4 | 1 << 5, x.count(2), "two are left");
        due.is(0, x.status(), "not refused");
    }

    private static void dieRefused() {
        due.says(18, "-2; -3 he is DEAD");
        WallsLeft x = Due.with(30);
        for (int one : noBuilders(1)) {
            due.is(-2, x.die(one), "builder " + one);
        }
        due.is(0, x.die(0), "he dies");
        due.is(-3, x.die(0), "he is dead");
        due.is(1, x.count(6), "nothing more was done");
        x.undo();
        due.is(0, x.die(0), "he lived again");
    }

    private static void pass() {
        due.says(19, "A YEAR: how many COURSES came on PLOTS (what 9 cuts off, not)");
        WallsLeft x = new WallsLeft();
        due.is(0, x.pass(), "nobody");
        x.builder(30, 3);
        x.builder(30, 3);
        due.is(0, x.pass(), "nobody is on a plot");
        Due.wall(x, 0, 0, 8);
        Due.wall(x, 1, 15, 7);
        due.is(3, x.pass(), "one of three, two of three");
        due.is(9, x.at(0, 0), "nine");
        due.is(9, x.at(15, 0), "nine");
        due.is(0, x.pass(), "both are free");
        Due.force(x, "lays 9");
        for (int i = 0; i < 2; i++) {
            x.begin(i, 3 + i);
        }
        due.is(18, x.pass(), "nine each");
        for (int i = 2; i < 6; i++) {
            x.builder(30, 1);
        }
        for (int i = 0; i < 6; i++) {
            x.begin(i, 5 + i);
        }
        due.is(54, x.pass(), "the most");
    }

    private static void passRefused() {
        due.says(19, "-3");
        WallsLeft x = Due.with(30);
        x.terms(0, 999);
        due.is(-3, x.pass(), "999");
        due.is(-3, x.status(), "refused");
        due.is(30, x.of(0, 0), "as it was");
        due.is(0, x.count(6), "as it was");
        x.terms(0, 998);
        due.is(0, x.pass(), "998");
        due.is(-3, x.pass(), "999");
        due.is(3, x.undo(), "998 again");
        due.is(0, x.pass(), "998");
    }

    private static void undoKinds() {
        due.says(20, "The latest begin(), lay(), die(), pass() ... is undone ... 0 .. 3");
        WallsLeft x = Due.with(30, 40);
        x.pass();
        x.die(1);
        x.begin(0, 3);
        x.lay(0);
        due.is(1, x.undo(), "lay");
        due.is(0, x.undo(), "begin");
        due.is(2, x.undo(), "die");
        due.is(3, x.undo(), "pass");
        due.is(0, x.status(), "not refused");
        due.is(-3, x.undo(), "none");
        x.begin(0, 3);
        x.undo();
        x.pass();
        due.is(1, x.count(6), "what was undone is gone");
        due.is(3, x.undo(), "pass");
    }

    private static void undoByOrders() {
        due.says(20, "(by ORDERS, too");
        WallsLeft x = Due.with(30, 40);
        due.is(5, Due.orders(x, "begin 0 at 3; lay 0 times 2; die 1; pass"), "five");
        int[] kinds = {3, 2, 1, 1, 0};
        for (int i = 0; i < 5; i++) {
            due.is(5 - i, x.count(6), "each by itself");
            due.is(kinds[i], x.undo(), "undone");
        }
        due.is(-3, x.undo(), "none");
        x.pass();
        due.is(-3, Due.orders(x, "pass; lay 7"), "refused");
        due.is(1, x.count(6), "orders that could not be leave it");
        due.is(0, Due.orders(x, "pass if 1 = 2"), "none was run");
        due.is(1, x.count(6), "orders of which none was run leave it");
    }

    private static void undoSixteen() {
        due.says(20, "16 are kept)");
        WallsLeft x = Due.with(30);
        for (int i = 1; i <= 40; i++) {
            x.pass();
            due.is(Math.min(16, i), x.count(6), "how many");
        }
        for (int i = 1; i <= 16; i++) {
            due.is(3, x.undo(), "undone");
            due.is(40 - i, x.count(14), "year");
            due.is(70 - i, x.of(0, 0), "age");
            due.is(16 - i, x.count(6), "how many");
        }
        due.is(-3, x.undo(), "a seventeenth");
        due.is(24, x.count(14), "year");
        due.is(17, Due.orders(x, "pass times 17"), "by orders");
        due.is(16, x.count(6), "by orders, too");
        for (int i = 0; i < 7; i++) {
            x.undo();
        }
        due.is(9, Due.orders(x, "begin 0 at 1; lay 0 times 8"), "nine more");
        due.is(16, x.count(6), "sixteen");
        for (int i = 0; i < 8; i++) {
            due.is(1, x.undo(), "a course");
        }
        due.is(0, x.undo(), "a beginning");
        due.is(3, x.undo(), "a year");
    }

    private static void undoAsTheyWere() {
        due.says(20, "(COURSES, what is LEFT, AGES, who is ALIVE, ON what, YEAR are as they were)");
        WallsLeft x = new WallsLeft();
        x.builder(98, 3);
        x.builder(99, 2);
        x.builder(16, 1);
        Due.wall(x, 0, 0, 8);
        Due.wall(x, 1, 15, 3);
        x.pass();
        due.is(3, x.undo(), "a year");
        due.is(8, x.at(0, 0), "courses");
        due.is(3, x.at(15, 0), "courses");
        due.is(98, x.of(0, 0), "age");
        due.is(99, x.of(1, 0), "age");
        due.is(16, x.of(2, 0), "age");
        due.is(0, x.of(0, 3), "on what, though he was done");
        due.is(15, x.of(1, 3), "on what");
        due.is(-1, x.of(2, 3), "on what");
        due.is(0, x.count(14), "year");
        x.die(1);
        due.is(2, x.undo(), "a death");
        due.is(1, x.of(1, 2), "who is alive");
        due.is(15, x.of(1, 3), "on what");
        due.is(0, x.at(15, 1), "what is left");
        due.is(4, x.lay(1), "he can go on");
        x.lay(0);
        due.is(1, x.undo(), "the ninth course");
        due.is(8, x.at(0, 0), "courses");
        due.is(0, x.of(0, 3), "on what, though he was done");
        x.undo();
        due.is(1, x.undo(), "a course");
        due.is(2, x.at(15, 0), "courses");
    }

    private static void undoNone() {
        due.says(20, "-3 there is none");
        WallsLeft x = new WallsLeft();
        due.is(-3, x.undo(), "at first");
        due.is(-3, x.status(), "refused");
        x.pass();
        x.undo();
        due.is(-3, x.undo(), "all is undone");
        due.is(2, x.count(10), "each is counted");
        due.is(0, x.count(6), "none");
    }

    private static void undoAhead() {
        due.says(20, "(nothing that was ahead of a builder(), terms(), row(), back() that was not REFUSED can be undone)");
        WallsLeft x = Due.with(30);
        x.image(0);
        for (int i = 0; i < 6; i++) {
            x.pass();
            x.pass();
            due.is(2, x.count(6), "two");
            switch (i) {
                case 0: x.builder(20, 1); break;
                case 1: x.terms(2, 4); break;
                case 2: x.terms(2, 4); break;
                case 3: Due.row(x, 30, 1); break;
                case 4: Due.row(x, 1, 1); break;
                default: x.back(0); break;
            }
            due.is(0, x.count(6), "none");
            due.is(-3, x.undo(), "none");
            x.pass();
            due.is(3, x.undo(), "what was behind it");
            due.is(-3, x.undo(), "none");
        }
        x.pass();
        x.builder(15, 1);
        x.terms(0, 1000);
        x.row();
        x.back(1);
        x.back(2);
        due.is(1, x.count(6), "those that were refused leave it");
        for (int i = 0; i < 5; i++) {
            x.builder(30, 1);
        }
        x.pass();
        x.builder(30, 1);
        due.is(1, x.count(6), "refused by -5");
        due.is(3, x.undo(), "undone");
    }

    // ---- 21 .. 25

    private static void chanceOfTheDead() {
        due.says(21, "CHANCE (of one who is DEAD: 0");
        WallsLeft x = Due.with(30, 40);
        Due.wall(x, 0, 3, 9);
        Due.force(x, "dies 0; lays 9");
        due.is(WHOLE, x.chance(0, 3), "alive");
        due.is(WHOLE, x.chance(0, 4), "alive");
        x.die(0);
        due.is(0, x.chance(0, 3), "dead, though it has nine");
        due.is(0, x.chance(0, 4), "dead");
        due.is(WHOLE, x.chance(1, 3), "another one");
        x.undo();
        due.is(WHOLE, x.chance(0, 3), "alive again");
    }

    private static void chanceWhatever() {
        due.says(21, "whatever he is ON, whatever stands there)");
        WallsLeft x = Due.with(30, 40, 50);
        Due.wall(x, 0, 3, 4);
        Due.wall(x, 1, 4, 7);
        x.die(1);
        Due.force(x, "dies 500; lays 5; bars");
        due.is(WHOLE / 2, x.chance(0, 3), "his own");
        due.is(WHOLE / 2, x.chance(2, 3), "another one's");
        due.is(WHOLE / 2, x.chance(0, 4), "left");
        due.is(WHOLE / 4, x.chance(0, 5), "barred to him");
        due.is(WHOLE / 4, x.chance(0, 15), "the last plot");
        due.is(3, x.of(0, 3), "on paper alone");
        due.is(4, x.at(3, 0), "on paper alone");
    }

    private static void chanceNone() {
        due.says(21, "NONE (no such BUILDER, PLOT)");
        WallsLeft x = Due.with(30, 40);
        x.die(1);
        for (int one : noBuilders(2)) {
            due.is(-1, x.chance(one, 0), "builder " + one);
        }
        for (int plot : NO_PLOTS) {
            due.is(-1, x.chance(0, plot), "plot " + plot);
            due.is(-1, x.chance(1, plot), "of the dead, plot " + plot);
        }
        due.is(0, x.status(), "nothing is refused");
    }

    private static void yearsNone() {
        due.says(22, "YEARS FOR a PLOT. NONE (not in 99; no such BUILDER, PLOT; he is DEAD)");
        WallsLeft x = Due.with(30, 40);
        Due.wall(x, 1, 15, 9);
        x.die(1);
        due.is(0, x.years(0, 15), "it has nine");
        due.is(9, x.years(0, 0), "nine years");
        due.is(-1, x.years(1, 15), "he is dead, though it has nine");
        due.is(-1, x.years(1, 0), "he is dead");
        for (int one : noBuilders(2)) {
            due.is(-1, x.years(one, 15), "builder " + one);
        }
        for (int plot : NO_PLOTS) {
            due.is(-1, x.years(0, plot), "plot " + plot);
        }
        Due.force(x, "lays 0; lays 9 if year = 98");
        due.is(99, x.years(0, 0), "in 99");
        Due.force(x, "lays 0; lays 9 if year = 99");
        due.is(-1, x.years(0, 0), "not in 99");
        due.is(0, x.years(0, 15), "it has nine");
    }

    private static void lives() {
        due.says(23, "To LIVE k 0 .. 99 YEARS (of one who is DEAD: 0, with k 0, too)");
        WallsLeft x = Due.with(30, 40);
        due.is(WHOLE, x.lives(0, 0), "k 0");
        due.is(WHOLE * 970 / 1000, x.lives(0, 1), "k 1");
        Due.force(x, "dies 0; dies 500 if year = 98; dies 1000 if year = 99");
        due.is(WHOLE, x.lives(0, 98), "k 98");
        due.is(WHOLE / 2, x.lives(0, 99), "k 99");
        x.die(1);
        due.is(0, x.lives(1, 0), "dead, k 0");
        due.is(0, x.lives(1, 1), "dead, k 1");
        due.is(0, x.lives(1, 99), "dead, k 99");
    }

    private static void livesNone() {
        due.says(23, "NONE");
        WallsLeft x = Due.with(30, 40);
        x.die(1);
        for (int k : new int[] {-1, 100, LEAST, MOST}) {
            due.is(-1, x.lives(0, k), "k " + k);
            due.is(-1, x.lives(1, k), "of the dead, k " + k);
        }
        for (int one : noBuilders(2)) {
            due.is(-1, x.lives(one, 0), "builder " + one);
            due.is(-1, x.lives(one, 1), "builder " + one);
        }
    }

    private static void plan() {
        due.says(24, "the CHANCES together (builder NONE), the PLOT of a BUILDER (NONE: none)");
        WallsLeft x = Due.with(30, 40, 50);
        Due.force(x, "dies 500; lays 9");
        due.is(WHOLE, x.plan(1 | 1 << 15, -1), "a half each");
        due.is(0, x.plan(1 | 1 << 15, 0), "the first plot");
        due.is(15, x.plan(1 | 1 << 15, 1), "the last plot");
        due.is(-1, x.plan(1 | 1 << 15, 2), "none");
        x.die(0);
        due.is(-1, x.plan(1 | 1 << 15, 0), "none for the dead");
        due.is(0, x.plan(1 | 1 << 15, 1), "the first plot");
        due.is(0, x.plan(0, -1), "no plots, nothing together");
        due.is(-1, x.plan(0, 1), "no plots, none");
        WallsLeft six = Due.with(30, 30, 30, 30, 30, 30);
        due.is(5, six.plan(0b111111, 5), "the last builder");
        for (int one : new int[] {6, 7, MOST, -2, LEAST}) {
            due.is(-1, six.plan(0b111111, one), "no builder " + one);
        }
        due.is(0, x.count(2), "on paper alone");
        due.is(1, x.count(6), "on paper alone");
    }

    private static void planNone() {
        due.says(24, "NONE (more than 6 PLOTS; no such BUILDER; others)");
        WallsLeft x = Due.with(30, 40);
        Due.force(x, "dies 0; lays 9");
        due.is(2 * WHOLE, x.plan(0b111111, -1), "six");
        due.is(-1, x.plan(0b1111111, -1), "seven");
        due.is(-1, x.plan(0b1111111, 0), "seven");
        due.is(-1, x.plan(0xffff, -1), "sixteen");
        for (int one : new int[] {-2, 2, 6, LEAST, MOST}) {
            due.is(-1, x.plan(1, one), "builder " + one);
            due.is(-1, x.plan(0, one), "builder " + one);
        }
        for (int plots : new int[] {1 << 16, 1 << 16 | 1, 1 << 30, -1, LEAST, MOST, LEAST | 1}) {
            due.is(-1, x.plan(plots, -1), "plots " + plots);
            due.is(-1, x.plan(plots, 0), "plots " + plots);
        }
        due.is(WHOLE, x.plan(1 << 15, -1), "the last plot");
        due.is(2 * WHOLE, x.plan(0xfc00, -1), "the last six");
    }

    private static void bridge() {
        due.says(25, "A BRIDGE, n 1 .. 40, by two BUILDERS");
        WallsLeft x = Due.with(30, 40, 50, 60, 70, 80);
        Due.force(x, "dies 0; lays 1");
        due.is(WHOLE, x.bridge(0, 5, 1), "n 1");
        due.is(WHOLE, x.bridge(5, 0, 40), "n 40");
        Due.force(x, "dies 0; lays 0; lays 9 if year = 0; lays 4 if year = 1; dies 1000 if year = 2");
        due.is(WHOLE, x.bridge(0, 1, 26), "n 26");
        due.is(0, x.bridge(0, 1, 27), "n 27");
        Due.force(x, "dies 0; lays 0; lays 8 if year = 0; lays 6 + builder if year < 3 and year > 0");
        due.is(0, x.bridge(0, 1, 40) - WHOLE, "8 + 8 + 6 + 7 + 6 + 7 are 42");
        due.is(6, x.count(1), "on paper alone");
    }

    private static void bridgeDead() {
        due.says(25, "(one who is DEAD does nothing)");
        WallsLeft x = Due.with(30, 40, 50);
        Due.force(x, "dies 0; dies 500 if builder = 1; dies 1000 if year > 0; lays 2 + builder");
        x.die(0);
        due.is(WHOLE / 2, x.bridge(0, 1, 3), "the second alone");
        due.is(WHOLE / 2, x.bridge(1, 0, 3), "the first alone");
        due.is(0, x.bridge(0, 1, 4), "the dead lays nothing");
        due.is(0, x.bridge(1, 0, 4), "the dead lays nothing");
        due.is(WHOLE, x.bridge(0, 2, 4), "another one alone");
        x.die(1);
        due.is(0, x.bridge(0, 1, 1), "both are dead");
        due.is(0, x.bridge(1, 0, 1), "both are dead");
    }

    private static void bridgeNone() {
        due.says(25, "NONE (one alone; others)");
        WallsLeft x = Due.with(30, 40);
        x.die(1);
        due.is(-1, x.bridge(0, 0, 1), "one alone");
        due.is(-1, x.bridge(1, 1, 1), "one alone, dead");
        for (int one : noBuilders(2)) {
            due.is(-1, x.bridge(0, one, 1), "builder " + one);
            due.is(-1, x.bridge(one, 0, 1), "builder " + one);
            due.is(-1, x.bridge(one, one, 1), "builder " + one);
        }
        for (int n : new int[] {0, 41, -1, LEAST, MOST}) {
            due.is(-1, x.bridge(0, 1, n), "n " + n);
        }
        due.is(-1, new WallsLeft().bridge(0, 1, 1), "there are none");
    }

    // ---- 26 .. 29

    private static void stair() {
        due.says(26, "STAIR: how long (what 0), its first PLOT (1). NONE");
        WallsLeft x = Due.with(30);
        due.is(1, x.stair(0), "how long");
        due.is(0, x.stair(1), "its first");
        Due.wall(x, 0, 15, 1);
        due.is(2, x.stair(0), "how long");
        due.is(14, x.stair(1), "its first");
        for (int what : new int[] {-1, 2, LEAST, MOST}) {
            due.is(-1, x.stair(what), "what " + what);
        }
    }

    private static void stretch() {
        due.says(27, "STRETCH below h 1 .. 9: how long (what 0), its first PLOT (1; NONE, if it is 0). NONE");
        WallsLeft x = Due.with(30);
        for (int plot = 0; plot < 15; plot++) {
            Due.wall(x, 0, plot, 9);
            due.is(15 - plot, x.stretch(1, 0), "below 1");
            due.is(plot + 1, x.stretch(9, 1), "below 9");
        }
        Due.wall(x, 0, 15, 8);
        due.is(0, x.stretch(1, 0), "below 1: none");
        due.is(-1, x.stretch(1, 1), "no first");
        due.is(0, x.stretch(8, 0), "below 8: none");
        due.is(-1, x.stretch(8, 1), "no first");
        due.is(1, x.stretch(9, 0), "below 9: one");
        due.is(15, x.stretch(9, 1), "the last");
        x.lay(0);
        due.is(0, x.stretch(9, 0), "below 9: none");
        due.is(-1, x.stretch(9, 1), "no first");
        for (int h : new int[] {0, 10, -1, LEAST, MOST}) {
            due.is(-1, x.stretch(h, 0), "below " + h);
            due.is(-1, x.stretch(h, 1), "below " + h);
        }
        WallsLeft bare = new WallsLeft();
        for (int what : new int[] {-1, 2, LEAST, MOST}) {
            due.is(-1, bare.stretch(1, what), "what " + what);
            due.is(-1, bare.stretch(9, what), "what " + what);
        }
        due.is(-1, bare.stretch(10, 0), "below 10");
        due.is(-1, bare.stretch(0, 0), "below 0");
    }

    private static void rooms() {
        due.says(28, "ROOMS below h 1 .. 9. NONE");
        WallsLeft x = Due.with(30);
        due.is(1, x.rooms(1), "below 1");
        due.is(1, x.rooms(9), "below 9");
        Due.wall(x, 0, 8, 8);
        for (int h = 1; h < 9; h++) {
            due.is(2, x.rooms(h), "below " + h);
        }
        due.is(1, x.rooms(9), "below 9");
        x.lay(0);
        due.is(2, x.rooms(9), "below 9");
        for (int plot = 0; plot < 16; plot += 2) {
            Due.wall(x, 0, plot, 9);
        }
        due.is(8, x.rooms(1), "a room behind each wall");
        due.is(8, x.rooms(9), "a room behind each wall");
        for (int h : new int[] {0, 10, -1, LEAST, MOST}) {
            due.is(-1, x.rooms(h), "below " + h);
        }
    }

    private static void seat() {
        due.says(29, "SEAT. NONE (nothing is LEFT)");
        WallsLeft x = Due.with(30, 40, 50);
        due.is(-1, x.seat(), "nobody died");
        x.die(2);
        due.is(-1, x.seat(), "nothing is left by one who was free");
        Due.wall(x, 0, 3, 9);
        due.is(-1, x.seat(), "done is not left");
        x.begin(0, 15);
        x.die(0);
        due.is(15, x.seat(), "the last plot, without a course");
        x.begin(1, 0);
        x.die(1);
        due.is(0, x.seat(), "the first plot, without a course");
        x.undo();
        x.undo();
        x.undo();
        due.is(-1, x.seat(), "undone");
    }

    // ---- 30 .. 35

    private static void seen() {
        due.says(30, "SEEN: how often there was. -1; -5");
        WallsLeft x = new WallsLeft();
        int[][] bad = {{-1, 0}, {21, 0}, {0, -1}, {0, 201}, {LEAST, 0}, {MOST, 0}, {0, LEAST}, {0, MOST}};
        for (int[] one : bad) {
            due.is(-1, x.seen(one[0], one[1]), "seen " + one[0] + ", " + one[1]);
            due.is(-1, x.status(), "refused");
        }
        for (int i = 1; i <= 6; i++) {
            due.is(i, x.seen(i == 2 ? 20 : 0, i == 2 ? 200 : 0), "how often");
            due.is(0, x.status(), "not refused");
        }
        due.is(-5, x.seen(0, 0), "no room");
        due.is(-5, x.status(), "no room");
        due.is(-1, x.seen(21, 0), "ahead of no room");
        due.is(6, x.count(4), "six");
    }

    private static void seenLeaves() {
        due.says(30, "It leaves what can be undone");
        WallsLeft x = Due.with(30);
        x.pass();
        x.seen(1, 1);
        x.seen(21, 1);
        due.is(1, x.count(6), "it stays");
        due.is(3, x.undo(), "a year");
        due.is(1, x.count(4), "what was seen stays");
        x.pass();
        x.forget();
        due.is(1, x.count(6), "forget(), too");
    }

    private static void forget() {
        due.says(31, "SEEN is nothing then: how often there was");
        WallsLeft x = Due.with(30);
        due.is(0, x.forget(), "nothing was");
        x.seen(0, 1);
        due.is(0, x.canBe(), "it can't be");
        due.is(1, x.forget(), "once");
        due.is(0, x.count(4), "nothing");
        due.is(1, x.canBe(), "it can be");
        for (int i = 0; i < 6; i++) {
            x.seen(0, 0);
        }
        due.is(6, x.forget(), "six times");
        due.is(1, x.seen(1, 1), "there is room");
    }

    private static void canBe() {
        due.says(32, "IT CAN BE, as bits");
        WallsLeft x = new WallsLeft();
        due.is(0, x.canBe(), "there is nobody");
        for (int i = 0; i < 6; i++) {
            x.builder(30, 1 + i % 3);
        }
        due.is(63, x.canBe(), "all");
        x.seen(1, 3);
        due.is(1 << 2 | 1 << 5, x.canBe(), "pace 3");
        x.die(2);
        due.is(1 << 5, x.canBe(), "alive");
        x.die(5);
        due.is(0, x.canBe(), "none");
        x.forget();
        x.seen(20, 20);
        due.is(1 | 1 << 3, x.canBe(), "in twenty years");
        Due.force(x, "lays 10");
        due.is(0, x.canBe(), "180, not 20");
        x.forget();
        x.seen(20, 180);
        due.is(1 | 1 << 1 | 1 << 3 | 1 << 4, x.canBe(), "180, the most");
    }

    private static void look() {
        due.says(33, "To LOOK: y (what 0), how many are left at most (1). NONE (it can be none)");
        WallsLeft x = new WallsLeft();
        due.is(-1, x.look(0), "there is nobody");
        due.is(-1, x.look(1), "there is nobody");
        x.builder(30, 1);
        due.is(0, x.look(0), "one alone: at once");
        due.is(1, x.look(1), "one alone");
        WallsLeft six = Due.with(30, 30, 30, 30, 30, 30);
        due.is(0, six.look(0), "six alike: at once");
        due.is(6, six.look(1), "six are left");
        six.die(3);
        due.is(0, six.look(0), "five alike: at once");
        due.is(5, six.look(1), "five are left");
        x.builder(30, 2);
        due.is(1, x.look(0), "in a year");
        due.is(1, x.look(1), "one is left");
        x.builder(30, 1);
        due.is(1, x.look(0), "in a year");
        due.is(2, x.look(1), "two are left");
        for (int what : new int[] {-1, 2, LEAST, MOST}) {
            due.is(-1, x.look(what), "what " + what);
        }
        x.seen(0, 1);
        due.is(-1, x.look(0), "it can be none");
        due.is(-1, x.look(1), "it can be none");
        x.forget();
        x.die(0);
        x.die(1);
        x.die(2);
        due.is(-1, x.look(0), "all are dead");
        due.is(-1, x.look(1), "all are dead");
    }

    private static void few() {
        due.says(34, "FEW, k 1 .. 20, n 0 .. 99. NONE");
        WallsLeft x = new WallsLeft();
        due.is(WHOLE, x.few(1, 0), "the least");
        due.is(WHOLE, x.few(20, 0), "n 0");
        due.is(WHOLE * 9 / 10, x.few(1, 1), "n 1");
        due.so(x.few(20, 99) > x.few(19, 99), "the most");
        long parts = WHOLE;
        for (int i = 0; i < 99; i++) {
            parts = parts * 9 / 10;
        }
        due.is(parts, x.few(1, 99), "n 99");
        for (int k : new int[] {0, 21, -1, LEAST, MOST}) {
            due.is(-1, x.few(k, 5), "k " + k);
            due.is(-1, x.few(k, 0), "k " + k);
        }
        for (int n : new int[] {-1, 100, LEAST, MOST}) {
            due.is(-1, x.few(5, n), "n " + n);
        }
    }

    private static void compare() {
        due.says(35, "COMPARED. NONE (no such LAW, BUILDER)");
        WallsLeft x = Due.with(30, 40);
        due.is(30, x.compare(-1, 0), "none");
        due.is(-1, x.compare(0, 0), "there are no laws");
        Due.law(x, "dies 5");
        due.is(5, x.compare(0, 1), "the law");
        for (int law : new int[] {-2, 1, 5, 6, LEAST, MOST}) {
            due.is(-1, x.compare(law, 0), "law " + law);
        }
        for (int one : noBuilders(2)) {
            due.is(-1, x.compare(0, one), "builder " + one);
            due.is(-1, x.compare(-1, one), "builder " + one);
        }
        for (int i = 1; i < 6; i++) {
            Due.law(x, "dies 5 * " + (i + 1));
        }
        due.is(30, x.compare(5, 1), "the last law");
        due.is(0, x.status(), "nothing is refused");
    }

    // ---- 36 .. 39

    private static void centuries() {
        due.says(36, "CENTURIES, kept as the latest: how many PLOTS are LEFT behind them");
        WallsLeft x = Due.with(30, 40, 50);
        Due.wall(x, 0, 0, 2);
        Due.wall(x, 1, 15, 4);
        x.die(1);
        Due.force(x, "dies 0; lays 1; bars");
        due.is(1, x.centuries(0, 1), "what is left ahead of them, too");
        due.is(3, x.drawn(0, 0), "the first");
        Due.force(x, "dies 1000; bars");
        due.is(2, x.centuries(0, 1), "two");
        due.is(2, x.drawn(0, 0), "the latest");
        Due.force(x, "dies 0; bars; lays 0");
        due.is(1, x.centuries(1_000_000, 60), "the most");
        due.is(0, x.status(), "not refused");
        x.die(0);
        x.die(2);
        due.is(2, x.centuries(0, 60), "the dead are builders, too");
    }

    private static void centuriesRefused() {
        due.says(36, "-1; -3 there are no BUILDERS");
        WallsLeft x = new WallsLeft();
        int[][] bad = {{-1, 1}, {1_000_001, 1}, {0, 0}, {0, 61}, {0, -1}, {LEAST, 1}, {MOST, 1}, {0, LEAST}, {0, MOST}};
        for (int i = 0; i < bad.length; i++) {
            due.is(-1, x.centuries(bad[i][0], bad[i][1]), "centuries " + bad[i][0] + ", " + bad[i][1]);
            due.is(-1, x.status(), "refused");
            due.is(i + 1, x.count(8), "counted");
        }
        due.is(-3, x.centuries(0, 1), "there are none");
        due.is(-3, x.centuries(1_000_000, 60), "there are none");
        due.is(-3, x.status(), "refused");
        due.is(-1, x.drawn(0, 0), "nothing is kept");
        x.builder(30, 1);
        Due.force(x, "dies 1000");
        x.begin(0, 7);
        due.is(1, x.centuries(0, 1), "one");
        x.undo();
        x.centuries(0, 0);
        due.is(1, x.drawn(7, 1), "refused ones leave the latest");
    }

    private static void drawn() {
        due.says(37, "COURSES of PLOT k (what 0), whether it is LEFT (1: 1, 0), whether BUILDER k, of those there were then, is ALIVE (2: 1, 0)");
        WallsLeft x = Due.with(30, 40, 50);
        Due.wall(x, 0, 0, 8);
        Due.wall(x, 1, 15, 3);
        x.die(2);
        Due.force(x, "dies 0; dies 1000 if builder = 1; lays 9");
        x.centuries(0, 1);
        due.is(9, x.drawn(0, 0), "nine");
        due.is(3, x.drawn(15, 0), "three");
        due.is(0, x.drawn(0, 1), "not left");
        due.is(1, x.drawn(15, 1), "left");
        due.is(1, x.drawn(0, 2), "alive");
        due.is(0, x.drawn(1, 2), "died in them");
        due.is(0, x.drawn(2, 2), "dead ahead of them");
        x.builder(60, 1);
        due.is(-1, x.drawn(3, 2), "he was not there then");
        x.centuries(0, 1);
        due.is(1, x.drawn(3, 2), "he is there now");
    }

    private static void drawnNone() {
        due.says(37, "NONE");
        WallsLeft x = Due.with(30, 40);
        for (int what = 0; what < 3; what++) {
            due.is(-1, x.drawn(0, what), "ahead of any");
        }
        x.centuries(0, 1);
        due.is(0, x.status(), "drawn");
        for (int plot : NO_PLOTS) {
            due.is(-1, x.drawn(plot, 0), "plot " + plot);
            due.is(-1, x.drawn(plot, 1), "plot " + plot);
        }
        for (int one : noBuilders(2)) {
            due.is(-1, x.drawn(one, 2), "builder " + one);
        }
        for (int what : new int[] {-1, 3, LEAST, MOST}) {
            due.is(-1, x.drawn(0, what), "what " + what);
        }
        due.so(x.drawn(15, 0) >= 0, "the last plot");
        due.so(x.drawn(1, 2) >= 0, "the last builder");
    }

    private static void image() {
        due.says(38, "IMAGE k is kept: 0; -1");
        WallsLeft x = Due.with(30);
        for (int k : new int[] {-1, 2, LEAST, MOST}) {
            due.is(-1, x.image(k), "image " + k);
            due.is(-1, x.status(), "refused");
        }
        due.is(0, x.image(1), "the second");
        due.is(0, x.status(), "not refused");
        due.is(-2, x.back(0), "the first was not kept");
        x.pass();
        due.is(0, x.image(0), "the first");
        x.pass();
        x.back(1);
        due.is(30, x.of(0, 0), "the second");
        x.back(0);
        due.is(31, x.of(0, 0), "the first");
        x.image(1);
        x.pass();
        x.back(1);
        due.is(31, x.of(0, 0), "kept anew");
    }

    private static void back() {
        due.says(39, "BACK to IMAGE k: 0. -1");
        WallsLeft x = Due.with(30);
        x.image(0);
        for (int k : new int[] {-1, 2, LEAST, MOST}) {
            due.is(-1, x.back(k), "image " + k);
            due.is(-1, x.status(), "refused");
        }
        x.builder(40, 1);
        x.begin(0, 3);
        due.is(0, x.back(0), "back");
        due.is(0, x.status(), "not refused");
        due.is(1, x.count(0), "one builder");
        due.is(-1, x.of(0, 3), "free");
        due.is(1, x.builder(50, 2), "another second one");
        due.is(50, x.of(1, 0), "another second one");
        due.is(2, x.of(1, 1), "another second one");
        due.is(1, x.of(1, 2), "alive");
        due.is(-1, x.of(1, 3), "free");
        due.is(0, x.back(0), "again");
        due.is(1, x.count(0), "one builder");
    }

    private static void backMissing() {
        due.says(39, "-2 it was not kept");
        WallsLeft x = Due.with(30);
        x.pass();
        due.is(-2, x.back(0), "the first");
        due.is(-2, x.back(1), "the second");
        due.is(-2, x.status(), "refused");
        due.is(2, x.count(9), "counted");
        x.image(2);
        due.is(-2, x.back(0), "a refused image keeps nothing");
        x.image(0);
        due.is(-2, x.back(1), "the second is not kept still");
        due.is(31, x.of(0, 0), "as it was");
        due.is(1, x.count(6), "as it was");
    }

    // ---- 40, 41

    private static void count() {
        due.says(40, "0 BUILDERS, 1 how many are ALIVE, 2 PLOTS that are LEFT, as bits, 3 PLOTS that are DONE, as bits, 4 SEEN, 5 LAWS,"
            + " 6 how many can be undone, 7 bytes of the TAPE ... 13 the LAW in FORCE, 14 .. 16 TERMS 0 .. 2");
        WallsLeft x = Due.with(30, 40, 50);
        Due.wall(x, 0, 15, 9);
        Due.wall(x, 0, 0, 9);
        Due.wall(x, 1, 1, 8);
        Due.wall(x, 2, 14, 1);
        x.die(1);
        x.die(2);
        x.terms(0, 998);
        x.terms(1, 10);
        x.terms(2, 9);
        Due.law(x, "dies 1");
        Due.law(x, "dies 2");
        x.force(1);
        x.seen(1, 1);
        x.pass();
        x.feed(1, 2, 3, 4, 5);
        x.end(17);
        int[] counts = {3, 1, 1 << 1 | 1 << 14, 1 | 1 << 15, 1, 2, 1, 17, 0, 0, 0, 0, 0, 1, 999, 10, 9};
        for (int what = 0; what < counts.length; what++) {
            due.is(counts[what], x.count(what), "count " + what);
        }
    }

    private static void countRefused() {
        due.says(40, "8 .. 12 how many calls were REFUSED by -1, -2, -3, -5, -6 (IMAGES do not keep that)");
        WallsLeft x = Due.with(30, 31, 32, 33, 34, 35);
        x.image(0);
        x.terms(0, -1);
        for (int i = 0; i < 2; i++) {
            x.force(0);
        }
        for (int i = 0; i < 3; i++) {
            x.lay(0);
        }
        for (int i = 0; i < 4; i++) {
            x.builder(30, 1);
        }
        for (int i = 0; i < 5; i++) {
            x.row();
        }
        for (int round = 0; round < 2; round++) {
            for (int i = 0; i < 5; i++) {
                due.is(i + 1, x.count(8 + i), "count " + (8 + i));
            }
            due.is(0, x.back(0), "back");
        }
        x.of(9, 9);
        x.at(99, 9);
        x.can(9, 99);
        x.end(999);
        x.chance(9, 9);
        x.years(9, 9);
        x.lives(9, 9);
        x.plan(-1, 9);
        x.bridge(9, 9, 9);
        x.stair(9);
        x.stretch(99, 9);
        x.rooms(99);
        x.look(9);
        x.few(99, 999);
        x.compare(9, 9);
        x.drawn(99, 9);
        x.count(99);
        x.seat();
        x.fault();
        x.stopped();
        for (int i = 0; i < 21; i++) {
            x.feed(0, 0, 0, 0, 0);
        }
        for (int i = 0; i < 5; i++) {
            due.is(i + 1, x.count(8 + i), "NONE is no refusal, count " + (8 + i));
        }
    }

    private static void countNone() {
        due.says(40, "NONE for others");
        WallsLeft x = Due.with(30);
        for (int what : new int[] {-1, 17, 18, LEAST, MOST}) {
            due.is(-1, x.count(what), "what " + what);
        }
    }

    private static void statusOfEach() {
        due.says(41, "What the latest call of builder, terms, row, law, orders, force, begin, lay, die, pass, undo, seen, centuries, image, back"
            + " was REFUSED by; 0 if it was not, or ahead of any");
        due.is(0, new WallsLeft().status(), "ahead of any");
        for (int call = 0; call < 15; call++) {
            WallsLeft x = Due.with(30);
            x.image(0);
            x.terms(0, 999);
            int told = refused(x, call);
            due.so(told < 0, "refused, call " + call);
            due.is(told, x.status(), "by what, call " + call);
            int why = told == -1 ? 8 : told == -2 ? 9 : told == -3 ? 10 : told == -5 ? 11 : 12;
            for (int what = 8; what < 13; what++) {
                due.is(what == why ? 1 : 0, x.count(what), "counted once, call " + call);
            }
            x.terms(0, 5);
            x.lay(0);
            due.is(-3, x.status(), "refused");
            well(x, call);
            due.is(0, x.status(), "not refused, call " + call);
        }
    }

    private static int refused(WallsLeft x, int call) {
        switch (call) {
            case 0: return x.builder(15, 1);
            case 1: return x.terms(3, 0);
            case 2: return x.row();
            case 3: return x.law();
            case 4: return Due.orders(x, "pass");
            case 5: return x.force(0);
            case 6: return x.begin(1, 0);
            case 7: return x.lay(1);
            case 8: return x.die(1);
            case 9: return x.pass();
            case 10: return x.undo();
            case 11: return x.seen(21, 0);
            case 12: return x.centuries(-1, 1);
            case 13: return x.image(2);
            default: return x.back(1);
        }
    }

    private static void well(WallsLeft x, int call) {
        if (call == 7) {
            x.begin(0, 1);
            x.die(5);
        }
        if (call == 10) {
            x.pass();
            x.die(5);
        }
        switch (call) {
            case 0: x.builder(16, 1); break;
            case 1: x.terms(2, 0); break;
            case 2: Due.row(x, 0, 0); break;
            case 3: Due.law(x, "bars"); break;
            case 4: Due.orders(x, "pass if 1 = 2"); break;
            case 5: x.force(-1); break;
            case 6: x.begin(0, 0); break;
            case 7: x.lay(0); break;
            case 8: x.die(0); break;
            case 9: x.pass(); break;
            case 10: x.undo(); break;
            case 11: x.seen(0, 0); break;
            case 12: x.centuries(0, 1); break;
            case 13: x.image(1); break;
            default: x.back(0); break;
        }
    }

    private static void statusStays() {
        due.says(41, "What the latest call of builder ... back was REFUSED by");
        WallsLeft x = Due.with(30);
        x.force(7);
        x.of(0, 0);
        x.of(9, 9);
        x.at(0, 0);
        x.can(0, 0);
        x.feed(0, 0, 0, 0, 0);
        x.end(3);
        x.end(-1);
        x.bubbles();
        x.fault();
        x.stopped();
        x.chance(0, 0);
        x.years(0, 0);
        x.lives(0, 0);
        x.plan(1, 0);
        x.bridge(0, 0, 1);
        x.stair(0);
        x.stretch(1, 0);
        x.rooms(1);
        x.seat();
        x.forget();
        x.canBe();
        x.look(0);
        x.few(1, 1);
        x.compare(-1, 0);
        x.drawn(0, 0);
        x.count(0);
        due.is(-2, x.status(), "it stays");
        due.is(-2, x.status(), "it stays");
        x.forget();
        x.pass();
        x.of(9, 9);
        due.is(0, x.status(), "0 stays, too");
    }
}
