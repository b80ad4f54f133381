/** Terms II, what LAWS tell and how ORDERS are run; sentence by sentence. */
public final class LawsAndOrdersTest {
    private static final Due due = new Due("LawsAndOrdersTest");
    private static final String II = "Terms II";

    public static void main(String[] args) {
        sixLaws();
        noneInForce();
        lawClause();
        askedOfHisPlot();
        barsOfOneAndAPlot();
        worthOfAPlot();
        noPlot();
        asTheyAreThen();
        yearAndMood();
        holds();
        diesNearest();
        diesByAge();
        laysNearest();
        laysByPace();
        worthNearest();
        worthByCourses();
        lastThatHolds();
        barred();
        orderClause();
        times();
        once();
        numbersOfWords();
        noParts();
        ifEachTime();
        sumsFromTheLeft();
        done();
        latest();
        leftAndFree();
        courses();
        age();
        endsIt();
        asItWas();
        due.end();
    }

    /** By how many thousandths the first dies by this law. */
    private static void dies(WallsLeft x, String law, int want) {
        x.back(0);
        Due.force(x, law);
        due.is(want, x.of(0, 4), law);
    }

    private static void lays(WallsLeft x, String law, int want) {
        x.back(0);
        Due.force(x, law);
        due.is(want, x.of(0, 5), law);
    }

    private static void worth(WallsLeft x, int plot, String law, int want) {
        x.back(0);
        Due.force(x, law);
        due.is(want, x.at(plot, 3), law);
    }

    private static WallsLeft kept(WallsLeft x) {
        x.image(0);
        return x;
    }

    private static void sixLaws() {
        due.says(II, "LAWS, 6 at most");
        WallsLeft x = Due.with(30);
        for (int i = 0; i < 6; i++) {
            due.is(i, Due.law(x, "dies " + (500 + i)), "its number");
        }
        due.is(-5, Due.law(x, "dies 506"), "a seventh");
        due.is(6, x.count(5), "six");
        for (int i = 0; i < 6; i++) {
            due.is(500 + i, x.compare(i, 0), "each tells its own");
        }
    }

    private static void noneInForce() {
        due.says(II, "one is in FORCE (NONE at first: no CLAUSE)");
        WallsLeft x = new WallsLeft();
        due.is(-1, x.count(13), "none");
        x.builder(30, 2);
        Due.law(x, "dies 1; lays 1; worth 1; bars");
        due.is(-1, x.count(13), "a law is not in force by itself");
        due.is(30, x.of(0, 4), "no dies");
        due.is(2, x.of(0, 5), "no lays");
        due.is(0, x.at(0, 3), "no worth");
        due.is(1, x.can(0, 0), "no bars");
        x.force(0);
        due.is(1, x.of(0, 4), "dies");
        due.is(1, x.of(0, 5), "lays");
        due.is(1, x.at(0, 3), "worth");
        due.is(0, x.can(0, 0), "bars");
    }

    private static void lawClause() {
        due.says(II, "CLAUSE: ((\"dies\" | \"lays\" | \"worth\") SUM | \"bars\") [\"if\" TEST]");
        due.lawFault("dies 1", -1);
        due.lawFault("lays 1", -1);
        due.lawFault("worth 1", -1);
        due.lawFault("bars", -1);
        due.lawFault("bars if 1 = 1", -1);
        due.lawFault("lays", 4);
        due.lawFault("worth", 5);
        due.lawFault("worth if 1 = 1", 6);
        due.lawFault("bars age", 5);
        due.lawFault("if 1 = 1", 0);
        due.lawFault("dies builder+age+pace+plot+courses+left+year+mood", -1);
        due.lawFault("dies latest", 5);
        due.lawFault("dies free", 5);
        due.lawFault("dies dies", 5);
    }

    private static void askedOfHisPlot() {
        due.says(II, "\"dies\", \"lays\" are asked of a BUILDER and the PLOT ON which he is");
        WallsLeft x = new WallsLeft();
        x.builder(30, 2);
        x.builder(40, 3);
        Due.wall(x, 1, 15, 4);
        Due.force(x, "dies builder * 500 + age * 5 + pace * 70 + plot + courses * 20 + left * 3;"
            + "lays 3; lays 5 if builder = 1 and age = 40 and pace = 3 and plot = 15 and courses = 4 and left = 0");
        due.is(500 + 200 + 210 + 15 + 80, x.of(1, 4) + 5, "no more than 1,000");
        due.is(5, x.of(1, 5), "lays");
        due.is(0 + 150 + 140 - 1 - 20 - 3, x.of(0, 4), "of the first, who is on none");
        due.is(3, x.of(0, 5), "lays of the first, who is on none");
        due.is(5, x.of(1, 5), "lays of the second again");
        due.is(5, x.pass(), "and in a year");
    }

    private static void barsOfOneAndAPlot() {
        due.says(II, "\"bars\" of one and a PLOT");
        WallsLeft x = new WallsLeft();
        x.builder(30, 2);
        x.builder(40, 3);
        Due.force(x, "bars if builder = 1 and age = 40 and pace = 3 and plot = 15 and courses = 0 and left = 0");
        due.is(0, x.can(1, 15), "barred");
        due.is(1, x.can(1, 14), "another plot");
        due.is(1, x.can(0, 15), "another builder");
        Due.force(x, "bars if plot < 1 and builder < 1");
        due.is(0, x.can(0, 0), "barred");
        due.is(1, x.can(0, 1), "another plot");
        due.is(1, x.can(1, 0), "another builder");
    }

    private static void worthOfAPlot() {
        due.says(II, "\"worth\" of a PLOT (builder, age, pace -1; left: 1, 0)");
        WallsLeft x = Due.with(30, 40);
        Due.wall(x, 0, 0, 3);
        Due.wall(x, 1, 15, 5);
        x.die(1);
        Due.force(x, "worth 50 + builder * 10 + age * 5 + pace");
        due.is(50 - 10 - 5 - 1, x.at(0, 3), "with a builder on it");
        due.is(50 - 10 - 5 - 1, x.at(15, 3), "left");
        due.is(50 - 10 - 5 - 1, x.at(7, 3), "bare");
        Due.force(x, "worth 1 + left * 60 + plot + courses * 2");
        due.is(1 + 6, x.at(0, 3), "not left: 0");
        due.is(1 + 60 + 15 + 10, x.at(15, 3), "left: 1");
        Due.force(x, "worth 1; worth 7 if builder = 0 - 1 and age = 0 - 1 and pace = 0 - 1 and left = 1");
        x.of(0, 4);
        due.is(7, x.at(15, 3), "-1 each");
        due.is(15, x.seat(), "so it is for the seat");
    }

    private static void noPlot() {
        due.says(II, "where there is no PLOT, plot, courses, left are -1");
        WallsLeft x = kept(Due.with(30, 30));
        x.begin(1, 0);
        x.at(0, 0);
        dies(x, "dies 10 + plot", 9);
        dies(x, "dies 10 + courses", 9);
        dies(x, "dies 10 + left", 9);
        lays(x, "lays 5 + plot", 4);
        lays(x, "lays 5 + courses", 4);
        lays(x, "lays 5 + left", 4);
        x.begin(0, 0);
        due.is(5, x.of(0, 5), "0 on a plot that is not left");
    }

    private static void asTheyAreThen() {
        due.says(II, "age, courses, year: as they are then");
        WallsLeft x = new WallsLeft();
        x.builder(20, 1);
        x.begin(0, 4);
        Due.force(x, "dies year * 100 + age + courses; lays 3");
        due.is(20, x.of(0, 4), "in year 0");
        x.pass();
        due.is(100 + 21 + 3, x.of(0, 4), "in year 1");
        x.lay(0);
        due.is(100 + 21 + 4, x.of(0, 4), "a course more");
        x.undo();
        x.undo();
        due.is(20, x.of(0, 4), "as it was");
        // On paper: 20; 124; 228 thousandths.
        long parts = Due.WHOLE * 980 / 1000 * 876 / 1000 * 772 / 1000;
        due.is(parts, x.chance(0, 4), "on paper");
    }

    private static void yearAndMood() {
        due.says(II, "\"year\" | \"mood\"");
        WallsLeft x = Due.with(20);
        x.terms(0, 999);
        x.terms(2, 9);
        Due.force(x, "dies year - mood; worth year - 990 + mood");
        due.is(990, x.of(0, 4), "999, 9");
        due.is(18, x.at(3, 3), "of a plot, too");
        x.terms(0, 12);
        due.is(3, x.of(0, 4), "12, 9");
        x.terms(2, 1);
        due.is(11, x.of(0, 4), "12, 1");
    }

    private static void holds() {
        due.says(II, "A CLAUSE HOLDS, if its \"if\" (if it has one) is so, and neither that nor its SUM is BROKEN");
        WallsLeft x = kept(Due.with(40));
        dies(x, "dies 7; dies 9 if age = 40", 9);
        dies(x, "dies 7; dies 9 if age = 41", 7);
        dies(x, "dies 7; dies 9 if 1 / 0 = 0", 7);
        dies(x, "dies 7; dies 9 if not 1 / 0 = 0", 7);
        dies(x, "dies 7; dies 1 / 0", 7);
        dies(x, "dies 7; dies 1 / 0 if age = 40", 7);
        dies(x, "dies 7; dies 1000 * 1000 * 1000 + 1", 7);
        dies(x, "dies 7; dies 9 if 1000 * 1000 * 1000 + 1 > 0", 7);
        dies(x, "dies 9", 9);
        Due.force(x, "bars if 1 / 0 = 0");
        due.is(1, x.can(0, 0), "a broken if bars nothing");
    }

    private static void diesNearest() {
        due.says(II, "One DIES in a YEAR by 0 .. 1,000 thousandths as the last \"dies\" that HOLDS tells (else the nearest)");
        WallsLeft x = kept(Due.with(40));
        dies(x, "dies 0", 0);
        dies(x, "dies 0 - 1", 0);
        dies(x, "dies 0 - 1000 * 1000 * 1000", 0);
        dies(x, "dies 1", 1);
        dies(x, "dies 999", 999);
        dies(x, "dies 1000", 1000);
        dies(x, "dies 1000 + 1", 1000);
        dies(x, "dies 1000 * 1000 * 1000", 1000);
        due.is(0, x.lives(0, 1), "1,000: nobody lives");
        x.back(0);
        Due.force(x, "dies 0 - 500");
        due.is(Due.WHOLE, x.lives(0, 99), "0: all live");
    }

    private static void diesByAge() {
        due.says(II, "by as many as his AGE without");
        WallsLeft x = kept(Due.with(40, 16, 99));
        due.is(40, x.of(0, 4), "without a law");
        due.is(16, x.of(1, 4), "the youngest");
        due.is(99, x.of(2, 4), "the oldest");
        dies(x, "lays 1; worth 2; bars", 40);
        dies(x, "dies 3 if age = 41", 40);
        dies(x, "dies 1 / 0", 40);
    }

    private static void laysNearest() {
        due.says(II, "he LAYS 0 .. 9 COURSES a YEAR");
        WallsLeft x = kept(Due.with(40));
        lays(x, "lays 0", 0);
        lays(x, "lays 0 - 1", 0);
        lays(x, "lays 1", 1);
        lays(x, "lays 8", 8);
        lays(x, "lays 9", 9);
        lays(x, "lays 10", 9);
        lays(x, "lays 1000 * 1000", 9);
        due.is(1, x.years(0, 0), "nine in a year");
        Due.force(x, "lays 0 - 3");
        x.begin(0, 2);
        due.is(0, x.pass(), "none is taken off");
        due.is(0, x.at(2, 0), "none is taken off");
    }

    private static void laysByPace() {
        due.says(II, "as many as his PACE without");
        WallsLeft x = new WallsLeft();
        x.builder(40, 3);
        x.builder(40, 1);
        kept(x);
        due.is(3, x.of(0, 5), "without a law");
        due.is(1, x.of(1, 5), "without a law");
        lays(x, "dies 7; worth 9; bars", 3);
        lays(x, "lays 1 / 0", 3);
        lays(x, "lays 5 if pace = 1", 3);
        due.is(5, x.of(1, 5), "his own");
    }

    private static void worthNearest() {
        due.says(II, "a PLOT is WORTH 0 .. 99");
        WallsLeft x = kept(Due.with(40));
        worth(x, 0, "worth 0", 0);
        worth(x, 0, "worth 0 - 1", 0);
        worth(x, 15, "worth 1", 1);
        worth(x, 15, "worth 98", 98);
        worth(x, 15, "worth 99", 99);
        worth(x, 15, "worth 100", 99);
        worth(x, 15, "worth 1000 * 1000", 99);
    }

    private static void worthByCourses() {
        due.says(II, "as many as its COURSES without");
        WallsLeft x = Due.with(40);
        Due.wall(x, 0, 3, 9);
        Due.wall(x, 0, 4, 5);
        kept(x);
        due.is(9, x.at(3, 3), "without a law");
        worth(x, 4, "dies 7; lays 9; bars", 5);
        worth(x, 3, "worth 1 / 0", 9);
        worth(x, 2, "worth 7 if plot = 3", 0);
    }

    private static void lastThatHolds() {
        due.says(II, "as the last ... that HOLDS tells");
        WallsLeft x = kept(Due.with(40));
        dies(x, "dies 5; dies 7; lays 9", 7);
        dies(x, "dies 5; dies 7 if 1 = 1; dies 9 if 1 = 2; lays 2", 7);
        dies(x, "dies 5 if 1 = 1; dies 7 if 1 = 2; dies 9 if 1 = 2", 5);
        dies(x, "dies 5; dies 7; dies 1 / 0; dies 9 if 1 % 0 = 0", 7);
        lays(x, "lays 5; lays 7; dies 9; lays 8 if 1 = 2", 7);
        worth(x, 2, "worth 5; worth 7; dies 9; worth 8 if 1 = 2", 7);
    }

    private static void barred() {
        due.says(II, "it is BARRED to one, if \"bars\" HOLDS");
        WallsLeft x = kept(Due.with(40));
        Due.force(x, "bars if 1 = 1; bars if 1 = 2");
        due.is(0, x.can(0, 0), "one of two holds, the first");
        Due.force(x, "bars if 1 = 2; bars if 1 = 1");
        due.is(0, x.can(0, 0), "one of two holds, the second");
        Due.force(x, "bars if 1 = 2; bars if 1 / 0 = 1; dies 1");
        due.is(1, x.can(0, 0), "none holds");
        Due.force(x, "dies 1; lays 1; worth 1");
        due.is(1, x.can(0, 0), "there is none");
        Due.force(x, "bars");
        due.is(0, x.can(0, 0), "without an if");
        due.is(-3, x.begin(0, 0), "he can't begin it");
    }

    private static void orderClause() {
        due.says(II, "CLAUSE: (\"begin\" SUM \"at\" SUM | \"lay\" SUM | \"die\" SUM | \"pass\") [\"times\" TIMES] [\"if\" TEST]");
        due.ordersFault("begin 0 at 1 times 1 if 1 = 2", -1);
        due.ordersFault("lay 0 times 2 if 1 = 2", -1);
        due.ordersFault("die 0 times 2 if 1 = 2", -1);
        due.ordersFault("pass times 2 if 1 = 2", -1);
        due.ordersFault("begin 0 + 1 at [2] * 3", -1);
        due.ordersFault("begin 0 at 1 at 2", 13);
        due.ordersFault("begin 0 times 2", 8);
        due.ordersFault("die if 1 = 1", 4);
        due.ordersFault("undo", 0);
        due.ordersFault("bars", 0);
        due.ordersFault("times 3", 0);
        WallsLeft x = Due.with(30, 40);
        due.is(4, Due.orders(x, "begin 1 at 5; lay 1; pass; die 1"), "a builder, a plot; a builder; a year; a builder");
        due.is(2, x.at(5, 0), "a course, one of the year");
        due.is(1, x.at(5, 1), "left");
        due.is(31, x.of(0, 0), "a year");
        due.is(0, x.of(1, 2), "dead");
    }

    private static void times() {
        due.says(II, "TIMES: a NUMBER 1 .. 20");
        due.ordersFault("pass times 0", 11);
        due.ordersFault("pass times 1", -1);
        due.ordersFault("pass times 20", -1);
        due.ordersFault("pass times 21", 11);
        due.ordersFault("pass times 1000", 11);
        due.ordersFault("pass times 007", -1);
        due.ordersFault("pass times 00", 11);
        due.ordersFault("pass times year", 11);
        due.ordersFault("pass times [2]", 11);
        due.ordersFault("pass times 4294967297", 11);
        due.ordersFault("pass times 2 + 3", 13);
        WallsLeft x = Due.with(30);
        due.is(20, Due.orders(x, "pass times 20"), "twenty");
        due.is(20, x.count(14), "twenty years");
        due.is(1, Due.orders(x, "pass times 1"), "one");
        due.is(21, x.count(14), "a year");
    }

    private static void once() {
        due.says(II, "each as often as TIMES tell (once without)");
        WallsLeft x = Due.with(30, 40);
        due.is(1, Due.orders(x, "pass"), "once");
        due.is(1, x.count(14), "a year");
        due.is(4, Due.orders(x, "pass times 3; pass"), "each by its own");
        due.is(5, x.count(14), "four years");
        due.is(6, Due.orders(x, "begin 0 at 3; begin 1 at 4; lay 0 times 3; lay 1"), "clause by clause");
        due.is(3, x.at(3, 0), "three");
        due.is(1, x.at(4, 0), "one");
    }

    private static void numbersOfWords() {
        due.says(II, "(P: a NUMBER 0 .. 15, B: 0 .. 5)");
        due.ordersFault("pass if courses 0 > 9", -1);
        due.ordersFault("pass if courses 15 > 9", -1);
        due.ordersFault("pass if courses 16 > 9", 16);
        due.ordersFault("pass if courses 1000 > 9", 16);
        due.ordersFault("pass if courses 015 > 9", -1);
        due.ordersFault("pass if courses > 9", 16);
        due.ordersFault("pass if courses year > 9", 16);
        due.ordersFault("pass if courses [1] > 9", 16);
        due.ordersFault("pass if courses 4294967296 > 9", 16);
        due.ordersFault("pass if age 0 > 200", -1);
        due.ordersFault("pass if age 5 > 200", -1);
        due.ordersFault("pass if age 6 > 200", 12);
        due.ordersFault("pass if age > 200", 12);
        due.ordersFault("pass if year 1 > 200", 13);
    }

    private static void noParts() {
        due.says(II, "P, B, TIMES aside, NUMBERS and words count as PARTS");
        due.ordersFault("pass times 1 if courses 1" + "+age 1".repeat(48) + " > 0", -1);
        due.ordersFault("pass times 1 if courses 1" + "+age 1".repeat(49) + " > 0", 25 + 6 * 49 + 3);
        due.ordersFault("pass times 1 if courses 1" + "+age 1".repeat(49), 25 + 6 * 49);
        due.ordersFault("begin 0 at 1" + "+1".repeat(48), -1);
        due.ordersFault("begin 0 at 1" + "+1".repeat(49), 12 + 2 * 48 + 1);
        due.ordersFault("lay 1" + "+1".repeat(49) + " times 3", -1);
        due.ordersFault("lay 1" + "+1".repeat(49) + " times 3; pass times 2", -1);
        due.ordersFault("lay 1" + "+1".repeat(49) + "; die year", 5 + 2 * 49 + 6);
        due.ordersFault("lay 1" + "+1".repeat(49) + "; die courses 1", 5 + 2 * 49 + 6);
    }

    private static void ifEachTime() {
        due.says(II, "each time its \"if\" is asked (not run, if it is not so or BROKEN)");
        WallsLeft x = Due.with(30);
        due.is(10, Due.orders(x, "begin 0 at 3; lay 0 times 20 if courses 3 < 9"), "until it has nine");
        due.is(-1, x.of(0, 3), "free");
        due.is(0, Due.orders(x, "pass if 1 = 2"), "not so");
        due.is(0, Due.orders(x, "pass if 1 / 0 = 1"), "broken");
        due.is(0, Due.orders(x, "pass if not 1 / 0 = 1"), "broken");
        due.is(0, x.count(14), "no year");
        due.is(-1, x.stopped(), "nothing could not be");
        due.is(0, Due.orders(x, "lay 1 / 0 if 1 = 2"), "what is not run is not reckoned");
        due.is(0, Due.orders(x, "die 5 if 1 / 0 = 1; begin 0 at 77 if 1 = 2"), "what is not run can't be refused");
        due.is(2, Due.orders(x, "pass times 5 if year < 2"), "twice of five times");
        due.is(3, Due.orders(x, "pass times 8 if 6 / [5 - year] > 0"), "broken in year 5");
    }

    private static void sumsFromTheLeft() {
        due.says(II, "then its SUMS from the left");
        WallsLeft x = Due.with(30, 40);
        due.is(1, Due.orders(x, "begin 2 - 1 at 3 + 4"), "a builder, a plot");
        due.is(7, x.of(1, 3), "on seven");
        due.is(-1, x.of(0, 3), "the other one is free");
        due.is(2, Due.orders(x, "lay [7 - 4] / 3; die age 1 - 39"), "reckoned");
        due.is(0, x.of(1, 2), "dead");
        due.is(-3, Due.orders(x, "begin 1 / 0 at 1"), "the first is broken");
        due.is(-3, Due.orders(x, "begin 0 at 1 / 0"), "the second is broken");
        due.is(-3, Due.orders(x, "begin 0 - 1 at 1"), "-1 is no builder");
        due.is(-3, Due.orders(x, "begin 0 at 0 - 1"), "-1 is no plot");
        due.is(-3, Due.orders(x, "begin 0 at 16"), "16 is no plot");
        due.is(1, Due.orders(x, "begin 0 at 15"), "15 is");
    }

    private static void done() {
        due.says(II, "done: how many were run in this TEXT");
        WallsLeft x = Due.with(30, 40);
        due.is(2, Due.orders(x, "pass if done = 0; pass if done = 1; pass if done = 1"), "what is not run does not count");
        due.is(1, Due.orders(x, "pass if done = 0; pass if done = 0"), "in this text");
        due.is(3, Due.orders(x, "begin done at done + 3; lay done - 1; pass times 7 if done < 3"), "it is asked each time");
        due.is(3, x.of(0, 3), "begun as done told");
    }

    private static void latest() {
        due.says(II, "latest: what the latest pass in it told (-1: none)");
        WallsLeft x = Due.with(30, 40);
        due.is(2, Due.orders(x, "begin 0 at 3; pass if latest = 0 - 1"), "none as yet");
        due.is(0, Due.orders(x, "pass if latest > 0 - 1"), "what an earlier text had is gone");
        due.is(3, Due.orders(x, "begin 1 at 4; pass; pass if latest = 2"), "two courses came");
        due.is(2, Due.orders(x, "pass; lay 0 if latest = 2"), "other orders can ask it");
        due.is(4, Due.orders(x, "die 0; pass; pass if latest = 1; pass if latest = 1"), "one came");
        due.is(2, Due.orders(x, "die 1; pass; pass if latest = 0 - 1"), "nobody is on a plot: 0, not -1");
        x.undo();
        due.is(2, Due.orders(x, "pass; pass if latest = 0"), "0 came");
    }

    private static void leftAndFree() {
        due.says(II, "left: how many PLOTS are LEFT");
        WallsLeft x = Due.with(30, 31, 32, 33, 34, 35);
        due.is(1, Due.orders(x, "pass if left = 0"), "none");
        due.is(3, Due.orders(x, "begin 0 at 0; begin 1 at 15; die 0 if left = 0"), "none as yet");
        due.is(1, Due.orders(x, "die 1 if left = 1"), "one, with no course");
        due.is(1, Due.orders(x, "pass if left = 2"), "two");
        due.is(1, Due.orders(x, "die 2"), "who is free leaves nothing");
        due.is(1, Due.orders(x, "pass if left = 2"), "two");
        due.says(II, "free: how many BUILDERS are FREE and ALIVE");
        due.is(1, Due.orders(x, "pass if free = 3"), "the dead are not");
        due.is(2, Due.orders(x, "begin 3 at 3; pass if free = 2"), "who is on a plot is not");
        due.is(9, Due.orders(x, "lay 3 times 20 if free = 2; pass if free = 3"), "eight courses, then he is done and free");
        due.is(2, Due.orders(new WallsLeft(), "pass times 2 if free = 0"), "there are none");
    }

    private static void courses() {
        due.says(II, "courses: of a PLOT");
        WallsLeft x = Due.with(30, 31, 32);
        Due.wall(x, 0, 0, 1);
        Due.wall(x, 1, 15, 2);
        Due.wall(x, 2, 7, 9);
        due.is(1, Due.orders(x, "pass if courses 0 = 1 and courses 15 = 2 and courses 7 = 9 and courses 1 = 0 and courses 14 = 0"), "of each");
        due.is(1, Due.orders(x, "pass if courses 0 = 2 and courses 15 = 3 and courses 7 = 9"), "as they are then");
        for (int plot = 1; plot < 15; plot++) {
            due.is(plot == 7 ? 0 : 1, Due.orders(Due.tape(x, ""), "pass if courses " + plot + " = 0"), "of plot " + plot);
        }
    }

    private static void age() {
        due.says(II, "age: of a BUILDER, DEAD or not (-1 without such a one)");
        WallsLeft x = Due.with(30, 31, 32);
        x.die(1);
        due.is(1, Due.orders(x, "pass if age 0 = 30 and age 1 = 31 and age 2 = 32"), "dead or not");
        due.is(1, Due.orders(x, "pass if age 0 = 31 and age 1 = 31 and age 2 = 33"), "the dead grow no older");
        due.is(1, Due.orders(x, "pass if age 3 = 0 - 1 and age 4 = 0 - 1 and age 5 = 0 - 1"), "without such a one");
        x.builder(53, 1);
        x.builder(54, 1);
        x.builder(55, 1);
        due.is(1, Due.orders(x, "pass if age 3 = 53 and age 4 = 54 and age 5 = 55"), "of the last, too");
        due.is(2, Due.orders(new WallsLeft(), "pass times 2 if age 0 = 0 - 1"), "nobody");
    }

    private static void endsIt() {
        due.says(II, "One that can't be (a BROKEN SUM, as begin(), lay(), die(), pass() are REFUSED) ends it");
        WallsLeft x = Due.with(30, 40);
        x.begin(1, 4);
        String[] bad = {"lay 1 / 0", "die 1000 * 1000 * 1000 + 1", "begin 0 at 1 % 0", "begin 0 at 16", "begin 2 at 0", "begin 1 at 0", "begin 0 at 4",
            "lay 2", "lay 0", "die 2", "die 0 - 1"};
        for (String one : bad) {
            due.is(-3, Due.orders(x, "pass; " + one + "; pass"), one);
            due.is(1, x.stopped(), one);
            due.is(-3, x.status(), one);
        }
        due.is(bad.length, x.count(10), "each is refused once, by -3 alone");
        due.is(0, x.count(8) + x.count(9), "each is refused once, by -3 alone");
        due.is(-3, Due.orders(x, "die 0 times 2"), "nobody dies twice");
        x.terms(0, 999);
        due.is(-3, Due.orders(x, "pass"), "no year behind 999");
        due.is(0, x.stopped(), "the first clause");
        x.terms(0, 998);
        due.is(-3, Due.orders(x, "pass times 2"), "no year behind 999");
        due.is(998, x.count(14), "the year as it was");
        due.is(1, Due.orders(x, "pass"), "999");
    }

    private static void asItWas() {
        due.says(II, "all is as it was ahead of it");
        WallsLeft x = Due.with(30, 40, 50);
        Due.wall(x, 0, 2, 8);
        int undoable = x.count(6);
        due.is(-3, Due.orders(x, "begin 1 at 5; begin 2 at 6; die 2; lay 0; pass times 3; lay 0"), "he is free");
        due.is(8, x.at(2, 0), "courses");
        due.is(0, x.at(5, 0), "courses");
        due.is(0, x.count(2), "what is left");
        due.is(30, x.of(0, 0), "ages");
        due.is(40, x.of(1, 0), "ages");
        due.is(1, x.of(2, 2), "who is alive");
        due.is(2, x.of(0, 3), "on what");
        due.is(-1, x.of(1, 3), "on what");
        due.is(0, x.count(14), "year");
        due.is(undoable, x.count(6), "what can be undone");
        due.is(1, x.undo(), "the eighth course");
        due.is(7, x.at(2, 0), "seven");
        // Of those that were pushed out, and of all kinds, the latest sixteen are there again.
        WallsLeft y = Due.with(30, 40, 50);
        for (int i = 0; i < 5; i++) {
            y.pass();
        }
        Due.wall(y, 0, 2, 6);
        y.pass();
        Due.wall(y, 1, 3, 4);
        y.die(2);
        y.pass();
        due.is(-3, Due.orders(y, "lay 0; lay 1 times 4; pass times 12; pass times 5; die 2"), "he is dead");
        int[] kinds = {3, 2, 1, 1, 1, 1, 0, 3, 1, 1, 1, 1, 1, 1, 0, 3};
        due.is(kinds.length, y.count(6), "sixteen");
        int[] second = {8, 7, 7, 7, 7, 7, 7, 7, 6, 5, 4, 3, 2, 1, 0, 0};
        int[] third = {5, 4, 4, 3, 2, 1, 0, 0, 0, 0, 0, 0, 0, 0, 0, 0};
        int[] years = {7, 6, 6, 6, 6, 6, 6, 6, 5, 5, 5, 5, 5, 5, 5, 5};
        for (int i = 0; i < kinds.length; i++) {
            due.is(second[i], y.at(2, 0), "courses ahead of undo " + i);
            due.is(third[i], y.at(3, 0), "courses ahead of undo " + i);
            due.is(years[i], y.count(14), "year ahead of undo " + i);
            due.is(kinds[i], y.undo(), "undo " + i);
        }
        due.is(-3, y.undo(), "no more");
        due.is(4, y.count(14), "year");
        // Sixteen are kept; those that were pushed out are there again.
        for (int i = 0; i < 16; i++) {
            x.pass();
        }
        due.is(-3, Due.orders(x, "pass times 20; pass times 20; lay 7"), "no such builder");
        for (int i = 0; i < 16; i++) {
            due.is(3, x.undo(), "a year");
            due.is(15 - i, x.count(14), "the year ahead of it");
        }
        due.is(-3, x.undo(), "no more");
    }
}
