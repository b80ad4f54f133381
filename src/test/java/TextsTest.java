/** The two languages of Terms II: what is read, where the fault is, what sums and tests come to. */
public final class TextsTest {
    private static final Due due = new Due("TextsTest");

    public static void main(String[] args) {
        due.promise(11, "law");
        tokens();
        faultsOfLaws();
        limits();
        sums();
        brokenSums();
        shortCuts();
        clausesOfLaws();
        wordsOfLaws();
        due.promise(12, "orders");
        faultsOfOrders();
        wordsOfOrders();
        runningOrders();
        due.end();
    }

    /** The fault of a law that can't be, NONE of one that can. */
    private static void lawFault(String text, int place) {
        WallsLeft x = new WallsLeft();
        due.is(place == -1 ? 0 : -6, Due.law(x, text), "law of '" + text + "'");
        due.is(place, x.fault(), "fault of law '" + text + "'");
        due.is(0, x.count(7), "tape behind law '" + text + "'");
    }

    private static void ordersFault(String text, int place) {
        WallsLeft x = new WallsLeft();
        int told = Due.orders(x, text);
        due.so((told == -6) == (place != -1), "orders of '" + text + "' told " + told);
        due.is(place, x.fault(), "fault of orders '" + text + "'");
        due.is(0, x.count(7), "tape behind orders '" + text + "'");
    }

    /** What a sum comes to in a law, told by how many thousandths one dies (0 .. 1,000). */
    private static void sum(String sum, int want) {
        WallsLeft x = Due.with(77);
        Due.force(x, "dies " + sum);
        due.is(want, x.of(0, 4), "sum " + sum);
    }

    /** Whether a test is so: 1, 0; BROKEN is told as not so, and so is its "not". */
    private static void test(String test, int want) {
        WallsLeft x = Due.with(77);
        Due.force(x, "dies 1 if " + test);
        due.is(want == 1 ? 1 : 77, x.of(0, 4), "test " + test);
    }

    private static void tokens() {
        lawFault("dies 5", -1);
        lawFault("  dies   5  ", -1);
        lawFault("dies5", -1);
        lawFault("dies5if7age", 8);
        lawFault("dies 5if 7<age", -1);
        lawFault("diesage", 0);
        lawFault("dies 1 2", 7);
        lawFault("dies agez", 5);
        lawFault("dies aage", 5);
        lawFault("dies 1z", 6);
        lawFault("dies 19", -1);
        lawFault("dies 90", -1);
        lawFault("Dies 5", 0);
        lawFault("dies\t5", 4);
        lawFault("dies \u00e9", 5);
        lawFault("dies a1", 5);
        lawFault("bars;bars", -1);
    }

    private static void faultsOfLaws() {
        lawFault("", 0);
        lawFault("    ", 4);
        lawFault("dies", 4);
        lawFault("dies   ", 7);
        lawFault("dies if age > 3", 5);
        lawFault("bars 1", 5);
        lawFault("bars if", 7);
        lawFault("bars if plot", 12);
        lawFault("bars if plot =", 14);
        lawFault("bars if plot = 1 = 2", 17);
        lawFault("bars if plot = 1 and", 20);
        lawFault("bars if (plot) = 1", 13);
        lawFault("bars if [plot] = 1", -1);
        lawFault("bars if (plot = 1", 17);
        lawFault("bars if (plot = 1]", 17);
        lawFault("bars if not", 11);
        lawFault("bars if plot not = 1", 13);
        lawFault("dies [1", 7);
        lawFault("dies [1)", 7);
        lawFault("dies (1)", 5);
        lawFault("dies -1", 5);
        lawFault("dies 1 + + 2", 9);
        lawFault("dies 1;", 7);
        lawFault("dies 1; ", 8);
        lawFault("; dies 1", 0);
        lawFault("dies 1;;dies 2", 7);
        lawFault("dies 1 times 2", 7);
        lawFault("pass", 0);
        lawFault("dies done", 5);
        lawFault("dies courses 1", 13);
        lawFault("dies 1 if age > 2 if age > 3", 18);
        lawFault("dies 1 < 2", 7);
    }

    private static void limits() {
        lawFault("dies 1000", -1);
        lawFault("dies 1001", 5);
        lawFault("dies 0001000", -1);
        lawFault("dies 99999999999999999999", 5);
        lawFault("bars" + ";bars".repeat(11), -1);
        lawFault("bars" + ";bars".repeat(12), 60);
        lawFault("bars" + ";bars".repeat(11) + ";", 60);
        lawFault("bars" + ";bars".repeat(11) + "; ?", 61);
        lawFault("dies 1" + "+1".repeat(49), -1);
        lawFault("dies 1" + "+1".repeat(50), 105);
        lawFault("dies 1" + "+1".repeat(47) + "; dies age; dies 1; dies 7", 125);
        lawFault("dies " + "[".repeat(8) + "1" + "]".repeat(8), -1);
        lawFault("dies " + "[".repeat(9) + "1" + "]".repeat(9), 13);
        lawFault("bars if " + "(".repeat(8) + "1=1" + ")".repeat(8), -1);
        lawFault("bars if " + "(".repeat(9) + "1=1" + ")".repeat(9), 16);
        lawFault("bars if " + "(".repeat(5) + "[[[1]]]=1" + ")".repeat(5), -1);
        lawFault("bars if " + "(".repeat(5) + "[[[[1]]]]=1" + ")".repeat(5), 16);
        lawFault("dies [1]" + "+[1]".repeat(30), -1);
        lawFault("bars if " + "not ".repeat(97) + "1=1", -1);
        lawFault("bars if " + "not ".repeat(98), 400);
    }

    private static void sums() {
        sum("2 + 3 * 4", 14);
        sum("[2 + 3] * 4", 20);
        sum("20 - 5 - 3", 12);
        sum("100 / 7 / 2", 7);
        sum("100 % 7 * 3", 6);
        sum("7 / 2", 3);
        sum("100 + [3 - 10] / 2", 97);
        sum("100 + [3 - 10] % 4", 97);
        sum("100 + 7 % [1 - 4]", 101);
        sum("0 - 5", 0);
        sum("1000 * 2", 1000);
        test("1 < 2", 1);
        test("2 < 2", 0);
        test("3 > 2", 1);
        test("2 > 2", 0);
        test("2 = 2", 1);
        test("2 = 3", 0);
        test("not 2 = 3", 1);
        test("not not 2 = 3", 0);
        test("not 1 = 1 or 1 = 1", 1);
        test("not (1 = 1 or 1 = 1)", 0);
        test("1 = 1 or 1 = 1 and 1 = 2", 1);
        test("(1 = 1 or 1 = 1) and 1 = 2", 0);
        test("1 = 2 or 1 = 3 or 1 = 1", 1);
        test("1 = 1 and 2 = 2 and 3 = 4", 0);
    }

    private static void brokenSums() {
        sum("1000 * 1000 * 1000 / 1000 / 1000", 1000);
        sum("[1000 * 1000 * 1000 + 1] * 0", 77);
        sum("[1000 * 1000 * 1000 + 1] % 1000", 77);
        sum("0 - 1000 * 1000 * 1000 + 1000 * 1000 * 1000 + 4", 4);
        sum("0 - 1000 * 1000 * 1000 - 1 + 1000 * 1000 * 1000", 77);
        sum("1000 * 1000 * 1000 * 1000 * 1000 * 1000 * 1000 * 0", 77);
        sum("5 / 0", 77);
        sum("5 % 0", 77);
        sum("5 / [age - age]", 77);
        sum("0 / 5", 0);
        test("1 / 0 = 1", 0);
        test("not 1 / 0 = 1", 0);
        test("1 = 1 % 0", 0);
    }

    private static void shortCuts() {
        test("1 = 1 or 1 / 0 = 1", 1);
        test("1 / 0 = 1 or 1 = 1", 0);
        test("1 = 2 or 1 / 0 = 1 or 1 = 1", 0);
        test("1 = 1 and 1 / 0 = 1", 0);
        test("not (1 = 2 and 1 / 0 = 1)", 1);
        test("not (1 = 1 and 1 / 0 = 1)", 0);
        test("1 = 2 and 1 / 0 = 1 or 1 = 1", 1);
        test("(1 = 1 or 1 / 0 = 1) and 1 = 1", 1);
        test("1 = 1 or 1 = 1 and 1 / 0 = 1", 1);
        test("1 = 2 and 1 = 1 and 1 / 0 = 1 or 2 = 2", 1);
    }

    private static void clausesOfLaws() {
        WallsLeft x = Due.with(40);
        Due.force(x, "dies 5; dies 7; dies 9 if age > 40");
        due.is(7, x.of(0, 4), "the last that holds");
        Due.force(x, "dies 5; dies 7; dies 1 / 0");
        due.is(7, x.of(0, 4), "a broken sum does not hold");
        Due.force(x, "dies 5; dies 7; dies 9 if 1 / 0 = 0");
        due.is(7, x.of(0, 4), "a broken if does not hold");
        due.is(-6, Due.law(x, "dies 5; dies 5000 - 6000"), "what can't be read");
        due.is(3, x.count(5), "is no law");
    }

    private static void wordsOfLaws() {
        WallsLeft x = Due.with(40, 50);
        x.terms(0, 12);
        x.terms(2, 3);
        x.begin(1, 4);
        x.lay(1);
        x.lay(1);
        Due.force(x, "dies builder; lays pace; worth 9");
        due.is(1, x.of(1, 4), "builder");
        Due.force(x, "dies plot * 10 + courses");
        due.is(42, x.of(1, 4), "plot, courses of one who is on a plot");
        Due.force(x, "dies 100 + plot * 9 + courses * 5 + left");
        due.is(85, x.of(0, 4), "plot, courses, left of one who is free are -1");
        due.is(146, x.of(1, 4), "left is 0 on a plot that is not left");
        Due.force(x, "dies year * 10 + mood");
        due.is(123, x.of(0, 4), "year, mood");
        Due.force(x, "worth 60 + builder + age * 10 + pace * 20 + plot");
        due.is(33, x.at(4, 3), "builder, age, pace are -1 for what a plot is worth");
        x.die(1);
        Due.force(x, "worth 50 + left * 10 + courses");
        due.is(62, x.at(4, 3), "left 1");
        due.is(50, x.at(5, 3), "left 0");
    }

    private static void faultsOfOrders() {
        ordersFault("", 0);
        ordersFault("   ", 3);
        ordersFault("pass", -1);
        ordersFault("dies 5", 0);
        ordersFault("pass 1", 5);
        ordersFault("pass times", 10);
        ordersFault("pass times 0", 11);
        ordersFault("pass times 20", -1);
        ordersFault("pass times 21", 11);
        ordersFault("pass times 007", -1);
        ordersFault("pass times year", 11);
        ordersFault("pass if 1 = 1 times 2", 14);
        ordersFault("begin 0", 7);
        ordersFault("begin 0 at", 10);
        ordersFault("begin at 0", 6);
        ordersFault("lay 0 at 0", 6);
        ordersFault("lay", 3);
        ordersFault("die", 3);
        ordersFault("pass if courses 15 > 9", -1);
        ordersFault("pass if courses 16 > 9", 16);
        ordersFault("pass if courses > 9", 16);
        ordersFault("pass if courses [1] > 9", 16);
        ordersFault("pass if age 5 > 200", -1);
        ordersFault("pass if age 6 > 200", 12);
        ordersFault("pass if age > 200", 12);
        ordersFault("pass if pace > 200", 8);
        ordersFault("pass if mood > 200", 8);
        // P, B and TIMES are no parts.
        ordersFault("pass times 1 if courses 1" + "+age 1".repeat(49), 25 + 6 * 49);
        ordersFault("pass times 1 if courses 1" + "+age 1".repeat(48) + " > 0", -1);
        ordersFault("pass times 1 if courses 1" + "+age 1".repeat(49) + " > 0", 25 + 6 * 49 + 3);
        ordersFault("pass" + ";pass".repeat(11), -1);
        ordersFault("pass" + ";pass".repeat(12), 60);
    }

    private static void wordsOfOrders() {
        WallsLeft x = Due.with(40, 50);
        x.terms(0, 5);
        due.is(1, Due.orders(x, "begin year - 5 at year"), "year");
        due.is(5, x.of(0, 3), "year told the plot");
        due.is(4, Due.orders(x, "lay done; lay done if done = 2; lay 0 times 2; begin done - 2 at 9 if done = 3; lay 0 if done = 9"), "done");
        due.is(3, x.at(5, 0), "laid as often as done asked for");
        due.is(9, x.of(1, 3), "begun as done asked for");
        due.is(2, Due.orders(x, "pass if latest = 0 - 1; pass if latest = 2; pass if latest = 3"), "latest");
        due.is(0, Due.orders(x, "pass if latest > 0 - 1"), "latest is of this text alone");
        due.is(2, Due.orders(x, "die left; die left if left = 1"), "left");
        due.is(0, Due.orders(x, "pass if age 0 = age 1 or age 2 + 1 > 0"), "age");
        due.is(1, Due.orders(x, "pass if age 0 = 42 and age 1 = 52 and age 5 = 0 - 1"), "age of the dead, age of nobody");
        due.is(1, Due.orders(x, "pass if courses 5 = 5 and courses 9 = 2 and courses 3 = 0"), "courses");
        x.builder(30, 1);
        x.builder(31, 1);
        Due.orders(x, "begin 2 at 0; lay 2; die 2");
        Due.orders(x, "begin 3 at 15; lay 3 times 2");
        due.is(1, Due.orders(x, "pass if courses 0 = 1 and courses 15 = 2 and courses 14 = 0"), "courses of the first and the last");
        x.builder(30, 1);
        x.builder(31, 1);
        due.is(1, Due.orders(x, "begin 4 at 3 if free = 2; begin 5 at 1 if free = 2"), "free, less the dead");
    }

    private static void runningOrders() {
        WallsLeft x = Due.with(40, 50);
        due.is(-3, Due.orders(x, "begin 0 at 1; lay 0 times 4; pass; lay 7 if 1 = 1; pass"), "no such builder ends it");
        due.is(3, x.stopped(), "the clause that could not be");
        due.is(-1, x.of(0, 3), "all as it was: on");
        due.is(0, x.at(1, 0), "all as it was: courses");
        due.is(40, x.of(0, 0), "all as it was: age");
        due.is(0, x.count(14), "all as it was: year");
        due.is(0, x.count(6), "all as it was: what can be undone");
        due.is(-3, Due.orders(x, "begin 0 at 16"), "no such plot");
        due.is(-3, Due.orders(x, "lay 1 / 0"), "a broken sum ends it");
        due.is(-3, Due.orders(x, "begin 0 at 1 % 0"), "a broken second sum ends it");
        due.is(0, Due.orders(x, "pass if 1 / 0 = 1"), "a broken if is not run");
        due.is(-1, x.stopped(), "done: nothing stopped it");
        due.is(0, Due.orders(x, "lay 1 / 0 if 1 = 2"), "what is not run is not reckoned");
        due.is(10, Due.orders(x, "begin 0 at 3; lay 0 times 20 if courses 3 < 9"), "each time its if is asked");
        due.is(-1, x.of(0, 3), "free with nine courses");
        due.is(-3, Due.orders(x, "begin 1 at 4; lay 1 times 10"), "the tenth can't be");
        due.is(1, x.stopped(), "the second clause");
        x.terms(0, 997);
        due.is(-3, Due.orders(x, "pass times 3"), "at 999 a year can't pass");
        due.is(997, x.count(14), "the year as it was");
        due.is(2, Due.orders(x, "pass times 2"), "up to 999");
        due.is(999, x.count(14), "the year");
    }
}
