/** Terms I, III and IV: each sentence that names a boundary case by a test of its own, headed by its words. */
public final class TermsTest {
    private static final Due due = new Due("TermsTest");
    private static final String I = "Terms I";
    private static final String III = "Terms III";
    private static final String IV = "Terms IV";
    private static final long WHOLE = Due.WHOLE;

    public static void main(String[] args) {
        plots();
        coursesAndLeft();
        builders();
        ages();
        paces();
        aliveAndFree();
        seen();
        terms();
        firstInThatOrder();
        toBegin();
        toLay();
        toDie();
        aYear();
        oldAge();
        lastYear();
        beyondLastYear();
        eachTimeCut();
        asIfOnIt();
        atOnce();
        ninetyNineYears();
        inHowMany();
        toLive();
        sixPlots();
        whoIsPlanned();
        notTwoToOne();
        mostTogether();
        firstByBuilders();
        lowerAheadOfHigher();
        bridgeOfNoPlot();
        bridgeOfHisAge();
        bridgeParts();
        bridgeDone();
        bridgeYears();
        stair();
        stretch();
        rooms();
        seat();
        canBe();
        look();
        few();
        compared();
        seedAndDraws();
        dies();
        begins();
        belowLastYear();
        onPaper();
        bubbles();
        kept();
        notKept();
        due.end();
    }

    // ---- I

    private static void plots() {
        due.says(I, "PLOTS 0 .. 15");
        WallsLeft x = Due.with(30);
        for (int plot = 0; plot < 16; plot++) {
            due.is(1, x.can(0, plot), "a plot " + plot);
        }
        for (int plot : new int[] {-1, 16, Due.LEAST, Due.MOST}) {
            due.is(-1, x.can(0, plot), "no plot " + plot);
            due.is(-1, x.begin(0, plot), "no plot " + plot);
        }
        due.is(0, x.begin(0, 15), "the last");
        due.is(15, x.of(0, 3), "the last");
    }

    private static void coursesAndLeft() {
        due.says(I, "COURSES 0 .. 9 (0 at first), LEFT or not (at first)");
        WallsLeft x = new WallsLeft();
        for (int plot = 0; plot < 16; plot++) {
            due.is(0, x.at(plot, 0), "no courses at first");
            due.is(0, x.at(plot, 1), "not left at first");
        }
        x.builder(30, 3);
        Due.wall(x, 0, 3, 9);
        due.is(9, x.at(3, 0), "nine");
        due.is(-3, x.lay(0), "no tenth");
        Due.wall(x, 0, 4, 8);
        x.pass();
        due.is(9, x.at(4, 0), "nine in a year of three");
        x.pass();
        due.is(9, x.at(4, 0), "and no more");
    }

    private static void builders() {
        due.says(I, "BUILDERS 0 .. 5 (6 at most)");
        WallsLeft x = new WallsLeft();
        for (int i = 0; i < 6; i++) {
            due.is(i, x.builder(20 + i, 1), "builder " + i);
        }
        due.is(-5, x.builder(30, 1), "a seventh");
        x.die(0);
        due.is(-5, x.builder(30, 1), "the dead have their room, too");
        due.is(25, x.of(5, 0), "the last");
        due.is(-1, x.of(6, 0), "no seventh");
        due.is(6, x.count(0), "six");
    }

    private static void ages() {
        due.says(I, "AGE 16 .. 99");
        WallsLeft x = new WallsLeft();
        for (int age : new int[] {15, 100, 0, -16, Due.LEAST, Due.MOST, 256 + 30}) {
            due.is(-1, x.builder(age, 1), "age " + age);
        }
        due.is(0, x.builder(16, 1), "the youngest");
        due.is(1, x.builder(99, 1), "the oldest");
        due.is(16, x.of(0, 0), "the youngest");
        due.is(99, x.of(1, 0), "the oldest");
    }

    private static void paces() {
        due.says(I, "PACE 1 .. 3");
        WallsLeft x = new WallsLeft();
        for (int pace : new int[] {0, 4, -1, Due.LEAST, Due.MOST, 256 + 1}) {
            due.is(-1, x.builder(30, pace), "pace " + pace);
        }
        due.is(0, x.builder(30, 1), "the slowest");
        due.is(1, x.builder(30, 3), "the fastest");
        due.is(1, x.of(0, 1), "the slowest");
        due.is(3, x.of(1, 1), "the fastest");
    }

    private static void aliveAndFree() {
        due.says(I, "ALIVE (at first) or DEAD, ON a PLOT or FREE (at first)");
        WallsLeft x = Due.with(30, 40);
        Due.row(x, 50, 2);
        for (int i = 0; i < 3; i++) {
            due.is(1, x.of(i, 2), "alive at first");
            due.is(-1, x.of(i, 3), "free at first");
        }
        x.begin(0, 0);
        due.is(0, x.of(0, 3), "on a plot");
        x.die(1);
        due.is(0, x.of(1, 2), "dead");
    }

    private static void seen() {
        due.says(I, "SEEN, 6 at most: a BUILDER nobody knows lays n COURSES 0 .. 200 in y YEARS 0 .. 20 from now");
        WallsLeft x = new WallsLeft();
        due.is(-1, x.seen(-1, 0), "no years");
        due.is(-1, x.seen(21, 0), "too many years");
        due.is(-1, x.seen(0, -1), "no courses");
        due.is(-1, x.seen(0, 201), "too many courses");
        due.is(-1, x.seen(Due.LEAST, Due.MOST), "far off");
        due.is(0, x.count(4), "nothing was seen");
        due.is(1, x.seen(0, 0), "the least");
        due.is(2, x.seen(20, 200), "the most");
        for (int i = 3; i < 7; i++) {
            due.is(i, x.seen(20, 0), "how often");
        }
        due.is(-5, x.seen(1, 1), "a seventh");
        due.is(6, x.count(4), "six");
    }

    private static void terms() {
        due.says(I, "0 YEAR 0 .. 999 (0 at first), 1 SLIPS 0 .. 10 (1), 2 MOOD 0 .. 9 (0)");
        WallsLeft x = new WallsLeft();
        int[] first = {0, 1, 0};
        int[] most = {999, 10, 9};
        for (int what = 0; what < 3; what++) {
            due.is(first[what], x.count(14 + what), "at first");
            due.is(-1, x.terms(what, -1), "below 0");
            due.is(-1, x.terms(what, most[what] + 1), "above");
            due.is(-1, x.terms(what, Due.LEAST), "far below");
            due.is(-1, x.terms(what, Due.MOST), "far above");
            due.is(first[what], x.terms(what, most[what]), "the most");
            due.is(most[what], x.terms(what, 0), "the least");
            due.is(0, x.count(14 + what), "it is 0");
        }
        due.is(-1, x.terms(-1, 0), "no such term");
        due.is(-1, x.terms(3, 0), "no such term");
        due.is(-1, x.terms(3, -1), "no such term");
    }

    private static void firstInThatOrder() {
        due.says(I, "The first of these in that order");
        WallsLeft x = Due.with(30, 31, 32, 33, 34, 35);
        due.is(-1, x.builder(15, 1), "-1 ahead of -5");
        due.is(-1, x.begin(6, 16), "-1 ahead of -2");
        x.begin(0, 0);
        due.is(-1, x.begin(0, -1), "-1 ahead of -3");
        due.is(-2, x.begin(6, 0), "-2 ahead of -3");
        for (int i = 0; i < 6; i++) {
            x.seen(1, 1);
            Due.law(x, "bars");
        }
        due.is(-1, x.seen(1, 201), "-1 ahead of -5");
        due.is(-5, Due.law(x, "?"), "-5 ahead of -6");
        due.is(-1, x.back(2), "-1 ahead of -2");
        due.is(-1, new WallsLeft().centuries(0, 61), "-1 ahead of -3");
    }

    // ---- III

    private static void toBegin() {
        due.says(III, "To BEGIN: a BUILDER who is ALIVE and FREE is ON a PLOT that has 0 COURSES, is not LEFT, ON which there is nobody,"
            + " that is not BARRED to him");
        WallsLeft x = Due.with(30, 40, 50, 60);
        x.die(0);
        due.is(-3, x.begin(0, 1), "dead");
        x.begin(1, 1);
        due.is(-3, x.begin(1, 2), "not free");
        due.is(-3, x.begin(1, 1), "on it");
        due.is(-3, x.begin(2, 1), "somebody is on it, with no course");
        Due.wall(x, 2, 2, 9);
        due.is(-3, x.begin(2, 2), "it has nine courses");
        Due.wall(x, 2, 3, 1);
        x.undo();
        x.undo();
        due.is(1, x.begin(2, 3), "it has none again");
        x.die(2);
        due.is(-3, x.begin(3, 3), "left, with no course");
        Due.force(x, "bars if plot = 4");
        due.is(-3, x.begin(3, 4), "barred");
        due.is(0, x.begin(3, 5), "nothing is in his way");
        due.is(5, x.of(3, 3), "on it");
    }

    private static void toLay() {
        due.says(III, "To LAY: the PLOT ON which one is has a COURSE more; with 9 it is DONE, he is FREE");
        WallsLeft x = new WallsLeft();
        x.builder(30, 3);
        Due.force(x, "lays 0");
        x.begin(0, 6);
        for (int i = 1; i < 9; i++) {
            due.is(i, x.lay(0), "one more, whatever he lays in a year");
            due.is(6, x.of(0, 3), "on it");
            due.is(0, x.count(3), "not done");
        }
        due.is(9, x.lay(0), "the ninth");
        due.is(1 << 6, x.count(3), "done");
        due.is(-1, x.of(0, 3), "free");
        due.is(-1, x.at(6, 2), "nobody is on it");
        due.is(0, x.at(6, 1), "not left");
        due.is(1, x.can(0, 7), "he can begin another one");
    }

    private static void toDie() {
        due.says(III, "To DIE: ... if he was ON a PLOT, that is LEFT (with 0 COURSES, too), he is ON none");
        WallsLeft x = Due.with(30, 40, 50);
        x.begin(0, 15);
        due.is(0, x.die(0), "no course");
        due.is(1, x.at(15, 1), "left");
        due.is(-1, x.of(0, 3), "on none");
        due.is(-1, x.at(15, 2), "nobody is on it");
        Due.wall(x, 1, 0, 8);
        due.is(8, x.die(1), "eight");
        due.is(8, x.at(0, 0), "they stay");
        due.is(1, x.at(0, 1), "left");
        due.is(0, x.die(2), "who is free leaves nothing");
        due.is(1 << 15 | 1, x.count(2), "two are left");
        x.pass();
        due.is(8, x.at(0, 0), "nobody lays there");
    }

    private static void aYear() {
        due.says(III, "as many COURSES on it as he LAYS (9 at most; then it is DONE, he is FREE)");
        WallsLeft x = Due.with(30, 40);
        Due.force(x, "lays 8 - builder");
        x.begin(0, 2);
        x.begin(1, 3);
        due.is(15, x.pass(), "eight and seven");
        due.is(2, x.of(0, 3), "eight are not nine");
        due.is(0, x.count(3), "not done");
        due.is(3, x.pass(), "one and two");
        due.is(9, x.at(2, 0), "nine");
        due.is(9, x.at(3, 0), "nine");
        due.is(12, x.count(3), "done");
        due.is(-1, x.of(0, 3), "free");
        due.is(-1, x.of(1, 3), "free");
        due.is(0, x.count(2), "not left");
        x.begin(0, 4);
        x.lay(0);
        due.is(8, x.pass(), "nine, not cut");
        due.is(-1, x.of(0, 3), "free");
    }

    private static void oldAge() {
        due.says(III, "all who are ALIVE are a YEAR older (99 at most)");
        WallsLeft x = Due.with(97, 98, 99, 16, 30);
        x.begin(3, 0);
        x.die(4);
        x.pass();
        int[] then = {98, 99, 99, 17, 30};
        for (int i = 0; i < 5; i++) {
            due.is(then[i], x.of(i, 0), "a year");
        }
        x.pass();
        int[] later = {99, 99, 99, 18, 30};
        for (int i = 0; i < 5; i++) {
            due.is(later[i], x.of(i, 0), "two years");
        }
        x.pass();
        due.is(99, x.of(0, 0), "three years");
        due.is(1, x.of(0, 2), "he lives");
    }

    private static void lastYear() {
        due.says(III, "it is the next YEAR (at 999 it can't be)");
        WallsLeft x = Due.with(30);
        x.begin(0, 3);
        x.terms(0, 998);
        due.is(1, x.pass(), "to 999");
        due.is(999, x.count(14), "999");
        due.is(-3, x.pass(), "not beyond");
        due.is(999, x.count(14), "999 still");
        due.is(31, x.of(0, 0), "nobody is older");
        due.is(1, x.at(3, 0), "nothing is laid");
        due.is(1, x.count(6), "nothing more can be undone");
    }

    private static void beyondLastYear() {
        due.says(III, "(On paper, YEARS go on beyond 999, too");
        WallsLeft x = Due.with(30, 30);
        x.terms(0, 999);
        Due.force(x, "lays 3; dies 0; dies 500 if year = 1000 + 1");
        due.is(WHOLE / 2, x.chance(0, 0), "chance: 999, 1000, 1001");
        due.is(WHOLE, x.lives(0, 2), "lives: 999, 1000");
        due.is(WHOLE / 2, x.lives(0, 3), "lives: 1001");
        due.is(WHOLE / 2, x.plan(1, -1), "plan");
        Due.force(x, "lays 0; dies 0; lays 9 if year = 1000 + 97");
        due.is(99, x.years(0, 0), "years: the 99th is 1097");
        due.is(WHOLE, x.bridge(0, 1, 18), "bridge: the 99th is 1097");
        Due.force(x, "lays 0; lays builder if year = 1000 + 18");
        due.is(20, x.look(0), "look: the twentieth is 1018");
        x.seen(20, 1);
        due.is(2, x.canBe(), "canBe: the twentieth is 1018");
        due.is(999, x.count(14), "on paper alone");
    }

    private static void eachTimeCut() {
        due.says(III, "parts are of 1,000,000,000,000, each time cut");
        WallsLeft x = Due.with(30, 30);
        Due.force(x, "dies 333; lays 1");
        long parts = WHOLE;
        for (int i = 0; i < 9; i++) {
            parts = parts * 667 / 1000;
        }
        due.is(26_129_584_583L, parts, "as by hand");
        due.is(parts, x.chance(0, 0), "chance");
        due.is(parts, x.lives(0, 9), "lives");
        due.is(2 * parts, x.plan(3, -1), "plan");
    }

    private static void asIfOnIt() {
        due.says(III, "The CHANCE of a BUILDER for a PLOT: as if he were ON it from now on");
        WallsLeft x = Due.with(30, 40, 50);
        Due.wall(x, 0, 2, 3);
        Due.wall(x, 1, 3, 4);
        x.die(1);
        Due.force(x, "lays 9; dies plot * 100 + courses * 10 + left");
        due.is(WHOLE * 770 / 1000, x.chance(0, 2), "the plot on which he is");
        due.is(WHOLE * 659 / 1000, x.chance(0, 3), "a plot that is left");
        due.is(WHOLE * 500 / 1000, x.chance(0, 5), "another plot");
        due.is(WHOLE * 770 / 1000, x.chance(2, 2), "one who is free, for a plot on which somebody is");
        // First the thousandths, then the courses, then the age, each by what stands then.
        Due.force(x, "dies 0; dies 500 if courses = 0 and age = 50; dies 200 if courses = 4 and age = 51; lays 4; lays 5 if age = 51");
        due.is(WHOLE * 4 / 10, x.chance(2, 9), "in two years");
        due.is(2, x.years(2, 9), "in two years");
    }

    private static void atOnce() {
        due.says(III, "the parts once it has 9 COURSES (at once, if it has");
        WallsLeft x = Due.with(30, 40);
        Due.wall(x, 0, 2, 9);
        Due.wall(x, 0, 3, 8);
        Due.force(x, "dies 1000; lays 1");
        due.is(WHOLE, x.chance(0, 2), "at once");
        due.is(WHOLE, x.chance(1, 2), "at once, whoever built it");
        due.is(0, x.chance(1, 3), "not at once");
        Due.force(x, "dies 250; lays 1; lays 9 if courses > 8");
        due.is(WHOLE * 3 / 4, x.chance(1, 3), "eight: in a year");
        Due.force(x, "dies 0; dies 500 if courses > 8; lays 9");
        due.is(WHOLE, x.chance(1, 3), "it goes on no more");
    }

    private static void ninetyNineYears() {
        due.says(III, "it has not in 99 YEARS: 0)");
        WallsLeft x = Due.with(30);
        Due.force(x, "dies 0; lays 0; lays 9 if year = 98");
        due.is(WHOLE, x.chance(0, 0), "in the 99th year");
        Due.force(x, "dies 0; lays 0; lays 9 if year = 99");
        due.is(0, x.chance(0, 0), "in the 100th");
        Due.force(x, "dies 0; lays 0");
        due.is(0, x.chance(0, 0), "never");
        Due.force(x, "dies 0; lays 0; lays 1 if year % 11 = 10");
        due.is(WHOLE, x.chance(0, 0), "the ninth course in the 99th year");
        x.pass();
        Due.force(x, "dies 0; lays 0; lays 1 if year % 11 = 0");
        due.is(WHOLE, x.chance(0, 0), "counted from now: 11, 22 .. 99 of the years 1 .. 99");
    }

    private static void inHowMany() {
        due.says(III, "YEARS FOR a PLOT: in how many it has 9 then, if he lives");
        WallsLeft x = Due.with(30, 40);
        Due.force(x, "dies 1000; lays 2; lays 3 if age > 32");
        due.is(4, x.years(0, 0), "2, 2, 2, 3");
        due.is(3, x.years(1, 0), "3, 3, 3");
        Due.wall(x, 0, 5, 9);
        due.is(0, x.years(1, 5), "at once");
        Due.force(x, "lays 0; lays 9 if year = 98");
        due.is(99, x.years(0, 0), "99");
        Due.force(x, "lays 0; lays 9 if year = 99");
        due.is(-1, x.years(0, 0), "not in 99");
    }

    private static void toLive() {
        due.says(III, "To LIVE k YEARS: the parts that stay so, on the PLOT ON which he is now, as it is now (no COURSE being laid)");
        WallsLeft x = Due.with(30, 40);
        Due.wall(x, 0, 7, 2);
        Due.force(x, "lays 9; dies 1; dies 100 if plot = 7 and courses = 2 and left = 0; dies 10 if plot = 0 - 1 and courses = 0 - 1");
        due.is(WHOLE * 729 / 1000, x.lives(0, 3), "on his plot, two courses each year");
        due.is(WHOLE * 990 / 1000 * 990 / 1000 * 990 / 1000, x.lives(1, 3), "on none");
        Due.force(x, "dies 0; dies 500 if age = 32 and year = 2");
        due.is(WHOLE, x.lives(0, 2), "years 0, 1");
        due.is(WHOLE / 2, x.lives(0, 3), "year 2, a year older each");
        WallsLeft old = Due.with(98);
        due.is(WHOLE * 902 / 1000 * 901 / 1000 * 901 / 1000, old.lives(0, 3), "99 at most");
    }

    private static void sixPlots() {
        due.says(III, "A PLAN for some PLOTS (6 at most)");
        WallsLeft x = Due.with(30);
        due.is(0, x.plan(0, -1), "none");
        due.so(x.plan(0b111111, -1) > 0, "six");
        due.so(x.plan(0b111111 << 10, -1) > 0, "the last six");
        due.is(-1, x.plan(0b1111111, -1), "seven");
        due.is(-1, x.plan(0xffff, -1), "all");
        due.is(-1, x.plan(0xffff, 0), "all");
    }

    private static void whoIsPlanned() {
        due.says(III, "each ALIVE and FREE BUILDER to one of these that he could BEGIN, or to none");
        WallsLeft x = Due.with(30, 31, 32, 33);
        Due.force(x, "dies 0; lays 9; bars if builder = 3 and plot < 14");
        x.die(0);
        x.begin(1, 0);
        Due.wall(x, 2, 1, 9);
        Due.wall(x, 2, 2, 1);
        x.undo();
        x.undo();
        due.is(-1, x.plan(0b11, 0), "the dead to none");
        due.is(-1, x.plan(0b111100, 1), "who is on a plot to none");
        due.is(2, x.plan(0b111, 2), "not to a plot on which somebody is, not to one that is done");
        due.is(-1, x.plan(0b11, 2), "there is none for him");
        due.is(-1, x.plan(0b111, 3), "barred to him");
        due.is(14, x.plan(1 << 14 | 0b111, 3), "not barred to him");
        due.is(WHOLE, x.plan(0b111, -1), "one comes of it");
        due.is(2 * WHOLE, x.plan(1 << 14 | 0b111, -1), "two come of it");
        x.die(1);
        due.is(-1, x.plan(0b11, 2), "nor to one that is left");
    }

    private static void notTwoToOne() {
        due.says(III, "no two to one");
        WallsLeft x = Due.with(30, 30, 30, 30, 30, 30);
        Due.force(x, "dies 0; lays 9");
        due.is(WHOLE, x.plan(1 << 9, -1), "one to one plot");
        due.is(9, x.plan(1 << 9, 0), "the first has it");
        for (int i = 1; i < 6; i++) {
            due.is(-1, x.plan(1 << 9, i), "none for another one");
        }
        due.is(5 * WHOLE, x.plan(0b11111, -1), "five to five");
        due.is(-1, x.plan(0b11111, 5), "none for the last");
        due.is(6 * WHOLE, x.plan(0b111111, -1), "six to six");
        due.is(5, x.plan(0b111111, 5), "the last to the last");
    }

    private static void mostTogether() {
        due.says(III, "so that their CHANCES together are most");
        WallsLeft x = Due.with(30, 30);
        // The first has 900 and 800 thousandths on plots 3 and 8, the second 700 and nothing.
        Due.force(x, "lays 9; dies 1000; dies 100 if builder = 0 and plot = 3; dies 200 if builder = 0 and plot = 8; dies 300 if builder = 1 and plot = 3");
        due.is(WHOLE * 1500 / 1000, x.plan(1 << 3 | 1 << 8, -1), "800 and 700");
        due.is(8, x.plan(1 << 3 | 1 << 8, 0), "not what is best for the first");
        due.is(3, x.plan(1 << 3 | 1 << 8, 1), "the second to the better one");
        due.is(WHOLE * 900 / 1000, x.plan(1 << 3, -1), "one plot: 900");
        due.is(3, x.plan(1 << 3, 0), "to the first");
        due.is(-1, x.plan(1 << 3, 1), "not to the second");
    }

    private static void firstByBuilders() {
        due.says(III, "the first such by BUILDERS");
        WallsLeft x = Due.with(30, 30, 30);
        Due.force(x, "dies 500; lays 9");
        due.is(4, x.plan(1 << 4, 0), "the first of three alike");
        due.is(-1, x.plan(1 << 4, 1), "not the second");
        due.is(4, x.plan(1 << 4 | 1 << 6, 0), "the lower to the first");
        due.is(6, x.plan(1 << 4 | 1 << 6, 1), "the higher to the second");
        due.is(-1, x.plan(1 << 4 | 1 << 6, 2), "none to the third");
        // Two ways of 1,300: the first to 4 (600) and the second to 6 (700), or the first to 6 (700) and the second to 4 (600).
        Due.force(x, "lays 9; dies 1000; dies 400 if plot = 4 and builder < 2; dies 300 if plot = 6 and builder < 2");
        due.is(4, x.plan(1 << 4 | 1 << 6, 0), "the first to the lower plot");
        due.is(6, x.plan(1 << 4 | 1 << 6, 1), "the second to the higher one");
    }

    private static void lowerAheadOfHigher() {
        due.says(III, "to lower PLOTS ahead of higher ones ahead of none");
        WallsLeft x = Due.with(30, 30);
        Due.force(x, "dies 500; lays 9");
        due.is(0, x.plan(1 | 1 << 15, 0), "the lower one");
        due.is(15, x.plan(1 | 1 << 15, 1), "the higher one");
        Due.force(x, "dies 1000; lays 9");
        due.is(0, x.plan(1 | 1 << 15, 0), "the lower one ahead of none, with a chance of 0");
        due.is(15, x.plan(1 | 1 << 15, 1), "the higher one ahead of none, with a chance of 0");
        due.is(0, x.plan(1 | 1 << 15, -1), "nothing comes of it");
        Due.force(x, "lays 0; bars if plot = 0");
        due.is(15, x.plan(1 | 1 << 15, 0), "not in 99 years: a chance of 0, ahead of none");
    }

    private static void bridgeOfNoPlot() {
        due.says(III, "(asked of no PLOT");
        WallsLeft x = Due.with(30, 40);
        x.begin(0, 3);
        x.begin(1, 4);
        Due.force(x, "dies 1000; lays 0; dies 0 if plot = 0 - 1 and courses = 0 - 1 and left = 0 - 1;"
            + "lays 7 if plot = 0 - 1 and courses = 0 - 1 and left = 0 - 1");
        due.is(WHOLE, x.bridge(0, 1, 14), "seven each");
        x.lay(0);
        x.die(1);
        due.is(WHOLE, x.bridge(0, 1, 7), "seven by one");
    }

    private static void bridgeOfHisAge() {
        due.says(III, "of his AGE then)");
        WallsLeft x = Due.with(97, 30);
        Due.force(x, "dies 0; lays 0; lays 5 if age = 99 and builder = 0; lays 1 if age = 31");
        due.is(WHOLE, x.bridge(0, 1, 40), "he stays 99: year by year five");
        Due.force(x, "dies 0; lays 0; lays 5 if age = 99 and year = 2; lays 1 if age = 31 and year = 1");
        due.is(WHOLE, x.bridge(0, 1, 6), "one in the second year, five in the third");
        due.is(0, x.bridge(0, 1, 7), "no more");
        Due.force(x, "lays 1; dies 0; dies 500 if age = 99; dies 1000 if builder = 1");
        due.is(WHOLE / 2, x.bridge(0, 1, 3), "97, 98, 99");
        due.is(WHOLE / 4, x.bridge(0, 1, 4), "99 again");
    }

    private static void bridgeParts() {
        due.says(III, "p times (1,000 less d) by 1,000, cut: q; q times (1,000 less e) ... p less q, it times (1,000 less e) by 1,000, cut");
        WallsLeft x = Due.with(30, 40);
        Due.force(x, "dies 333; dies 667 if builder = 1; lays 2; lays 3 if builder = 1");
        long[][] now = {{WHOLE}, {0}, {0}};
        for (int n = 1; n <= 12; n++) {
            due.is(bridge(333, 667, 2, 3, n), x.bridge(0, 1, n), "n " + n);
            due.is(bridge(667, 333, 3, 2, n), x.bridge(1, 0, n), "the other way, n " + n);
        }
        Due.force(x, "dies 1; dies 999 if builder = 1; lays 1");
        due.is(bridge(1, 999, 1, 1, 40), x.bridge(0, 1, 40), "40");
        due.is(bridge(999, 1, 1, 1, 40), x.bridge(1, 0, 40), "40");
        Due.force(x, "dies 7; dies 500 if builder = 1; lays 0; lays 9 if builder = 1");
        due.is(bridge(7, 500, 0, 9, 20), x.bridge(0, 1, 20), "the first lays nothing");
        due.is(bridge(500, 7, 9, 0, 20), x.bridge(1, 0, 20), "the second lays nothing");
    }

    /** As the document tells it, with the same d, e, l, m each year. */
    private static long bridge(int d, int e, int l, int m, int n) {
        long[] both = new long[n];
        long[] first = new long[n];
        long[] second = new long[n];
        both[0] = WHOLE;
        long done = 0;
        for (int year = 0; year < 99; year++) {
            long[] b = new long[n + 18];
            long[] f = new long[n + 18];
            long[] s = new long[n + 18];
            for (int c = 0; c < n; c++) {
                long p = both[c];
                long q = p * (1000 - d) / 1000;
                long r = q * (1000 - e) / 1000;
                b[c + l + m] += r;
                f[c + l] += q - r + first[c] * (1000 - d) / 1000;
                s[c + m] += (p - q) * (1000 - e) / 1000 + second[c] * (1000 - e) / 1000;
            }
            for (int c = 0; c < n + 18; c++) {
                if (c < n) {
                    both[c] = b[c];
                    first[c] = f[c];
                    second[c] = s[c];
                } else {
                    done += b[c] + f[c] + s[c];
                }
            }
        }
        return done;
    }

    private static void bridgeDone() {
        due.says(III, "Parts with n or more laid are done with and go on no more: all these together");
        WallsLeft x = Due.with(30, 40);
        Due.force(x, "dies 0; lays 5; dies 1000 if year > 0");
        due.is(WHOLE, x.bridge(0, 1, 9), "more than n");
        due.is(WHOLE, x.bridge(0, 1, 10), "n");
        due.is(0, x.bridge(0, 1, 11), "fewer than n, and both are dead");
        Due.force(x, "dies 500; lays 1; dies 0 if year > 0");
        due.is(WHOLE * 3 / 4, x.bridge(0, 1, 1), "both, the first alone, the second alone");
        due.is(WHOLE * 3 / 4, x.bridge(0, 1, 20), "sooner or later, each counted once");
    }

    private static void bridgeYears() {
        due.says(III, "all these together, in 99 YEARS");
        WallsLeft x = Due.with(30, 40);
        Due.force(x, "dies 0; lays 0; lays 9 if year = 98");
        due.is(WHOLE, x.bridge(0, 1, 18), "in the 99th");
        due.is(0, x.bridge(0, 1, 19), "nor later");
        Due.force(x, "dies 0; lays 0; lays 9 if year = 99");
        due.is(0, x.bridge(0, 1, 1), "not in the 100th");
        Due.force(x, "dies 0; lays 0");
        due.is(0, x.bridge(0, 1, 1), "never");
    }

    private static void stair() {
        due.says(III, "STAIR: the longest row of PLOTS, side by side to higher numbers, each of which has a COURSE more than the one ahead; the first");
        WallsLeft x = Due.with(30, 30, 30, 30, 30);
        due.is(1, x.stair(0), "one alone");
        due.is(0, x.stair(1), "the first");
        Due.wall(x, 0, 0, 1);
        due.is(1, x.stair(0), "down is none");
        Due.wall(x, 1, 15, 1);
        due.is(2, x.stair(0), "at the street's end");
        due.is(14, x.stair(1), "at the street's end");
        Due.wall(x, 2, 1, 2);
        due.is(2, x.stair(0), "as long, ahead of it");
        due.is(0, x.stair(1), "the first");
        Due.wall(x, 3, 2, 4);
        due.is(2, x.stair(0), "two courses more are no stair");
        Due.wall(x, 4, 14, 1);
        due.is(2, x.stair(0), "as many are no stair");
        x.lay(1);
        due.is(3, x.stair(0), "0, 1, 2");
        due.is(13, x.stair(1), "13, 14, 15");
        WallsLeft up = Due.with(30, 30, 30, 30, 30, 30);
        Due.wall(up, 0, 15, 9);
        for (int i = 0; i < 6; i++) {
            Due.wall(up, i, 14 - i, 8 - i);
        }
        due.is(7, up.stair(0), "3 .. 9, up to the last plot");
        due.is(9, up.stair(1), "3 .. 9, up to the last plot");
        WallsLeft full = Due.with(30);
        for (int plot = 0; plot < 16; plot++) {
            Due.wall(full, 0, plot, 9);
        }
        due.is(1, full.stair(0), "nine each");
        due.is(0, full.stair(1), "nine each");
    }

    private static void stretch() {
        due.says(III, "STRETCH below h: the longest row of PLOTS side by side that have fewer COURSES than h; the first");
        WallsLeft x = Due.with(30, 30, 30);
        due.is(16, x.stretch(1, 0), "all");
        due.is(0, x.stretch(1, 1), "all");
        Due.wall(x, 0, 7, 3);
        due.is(8, x.stretch(3, 0), "three are not fewer than three");
        due.is(8, x.stretch(3, 1), "8 .. 15, up to the last plot");
        due.is(16, x.stretch(4, 0), "three are fewer than four");
        Due.wall(x, 1, 15, 1);
        due.is(7, x.stretch(1, 0), "two alike");
        due.is(0, x.stretch(1, 1), "the first");
        Due.wall(x, 2, 0, 1);
        due.is(7, x.stretch(1, 0), "8 .. 14");
        due.is(8, x.stretch(1, 1), "8 .. 14");
        due.is(8, x.stretch(2, 0), "8 .. 15");
        due.is(16, x.stretch(9, 0), "all");
    }

    private static void rooms() {
        due.says(III, "ROOMS: how many such rows there are (none longer around them)");
        WallsLeft x = Due.with(30, 30, 30, 30);
        due.is(1, x.rooms(1), "the whole street");
        Due.wall(x, 0, 0, 1);
        due.is(1, x.rooms(1), "1 .. 15");
        Due.wall(x, 1, 15, 2);
        due.is(1, x.rooms(1), "1 .. 14");
        Due.wall(x, 2, 14, 3);
        due.is(1, x.rooms(1), "1 .. 13");
        due.is(1, x.rooms(2), "0 .. 13");
        due.is(2, x.rooms(3), "0 .. 13, 15");
        Due.wall(x, 3, 2, 1);
        due.is(2, x.rooms(1), "1, 3 .. 13");
        due.is(1, x.rooms(4), "the whole street");
        WallsLeft full = Due.with(30);
        for (int plot = 0; plot < 16; plot++) {
            Due.wall(full, 0, plot, 9);
            due.is(plot < 15 ? 1 : 0, full.rooms(9), "behind plot " + plot);
        }
    }

    private static void seat() {
        due.says(III, "SEAT: the LEFT PLOT that is WORTH most; the lowest");
        WallsLeft x = Due.with(30, 30, 30, 30);
        Due.wall(x, 0, 8, 9);
        Due.wall(x, 0, 5, 2);
        Due.wall(x, 1, 11, 2);
        Due.wall(x, 2, 15, 0);
        Due.wall(x, 3, 2, 7);
        due.is(-1, x.seat(), "nothing is left");
        x.die(2);
        due.is(15, x.seat(), "worth 0, the only one");
        x.die(1);
        due.is(11, x.seat(), "worth more");
        x.die(0);
        due.is(5, x.seat(), "the lowest of two alike");
        Due.force(x, "worth plot * 9");
        due.is(11, x.seat(), "99 as 15: the lower one");
        Due.force(x, "worth plot");
        due.is(15, x.seat(), "by law");
        Due.force(x, "worth 0 - 1");
        due.is(5, x.seat(), "0 each: the lowest");
        Due.force(x, "worth plot; worth 50 - plot if builder = 0 - 1 and age = 0 - 1 and pace = 0 - 1");
        due.is(5, x.seat(), "asked of nobody");
        x.force(-1);
        x.die(3);
        due.is(2, x.seat(), "seven courses");
        WallsLeft high = Due.with(30, 30, 30);
        Due.wall(high, 0, 1, 2);
        Due.wall(high, 1, 13, 4);
        Due.wall(high, 2, 14, 3);
        Due.orders(high, "die 0; die 1; die 2");
        due.is(13, high.seat(), "worth most, neither the lowest nor the highest");
    }

    private static void canBe() {
        due.says(III, "IT CAN BE: ALIVE BUILDERS who, living on, of no PLOT, would LAY so at all that was SEEN");
        WallsLeft x = new WallsLeft();
        x.builder(30, 1);
        x.builder(98, 2);
        x.builder(40, 2);
        due.is(7, x.canBe(), "nothing was seen: all");
        x.seen(0, 0);
        due.is(7, x.canBe(), "in no year nobody lays");
        x.seen(20, 40);
        due.is(6, x.canBe(), "two a year");
        x.seen(10, 20);
        due.is(6, x.canBe(), "both times");
        x.seen(10, 10);
        due.is(0, x.canBe(), "not at all of them");
        x.forget();
        x.seen(0, 1);
        due.is(0, x.canBe(), "nobody lays in no year");
        x.forget();
        Due.force(x, "dies 1000; lays 1; lays 9 if plot > 0 - 1");
        x.begin(0, 4);
        x.seen(3, 3);
        due.is(7, x.canBe(), "of no plot, living on");
        Due.force(x, "lays 1; lays 3 if age = 99");
        due.is(5, x.canBe(), "99 stays 99");
        x.forget();
        x.seen(3, 1 + 3 + 3);
        due.is(2, x.canBe(), "98, 99, 99");
        x.die(1);
        due.is(0, x.canBe(), "the dead can't be it");
    }

    private static void look() {
        due.says(III, "To LOOK: the least y 0 .. 20 at which of these the most who would have laid as many are as few as can be");
        WallsLeft x = Due.with(30, 31, 32, 33);
        due.is(0, x.look(0), "never fewer: at once");
        due.is(4, x.look(1), "all four");
        Due.force(x, "lays 1; lays builder % 2 if year = 6");
        due.is(7, x.look(0), "behind year 6");
        due.is(2, x.look(1), "two and two");
        Due.force(x, "lays 1; lays 2 if builder = 3 and year = 4; lays builder if year = 9");
        due.is(10, x.look(0), "three and one behind year 4; each alone behind year 9");
        due.is(1, x.look(1), "each alone");
        Due.force(x, "lays builder if year < 2; lays 3 - builder if year > 1");
        due.is(1, x.look(0), "the least of those alike");
        due.is(1, x.look(1), "each alone");
        Due.force(x, "lays 1; lays builder if year = 19");
        due.is(20, x.look(0), "20");
        Due.force(x, "lays 1; lays builder if year = 20");
        due.is(0, x.look(0), "not 21");
        due.is(4, x.look(1), "not 21");
        WallsLeft y = Due.with(30, 31, 32);
        Due.force(y, "lays builder");
        y.seen(1, 2);
        due.is(0, y.look(0), "of these alone: one is left at once");
        due.is(1, y.look(1), "one");
    }

    private static void few() {
        due.says(III, "each part times the rest by ten and times SLIPS by ten (one more), both cut; of those below k all together");
        WallsLeft x = new WallsLeft();
        for (int slips = 0; slips <= 10; slips++) {
            x.terms(1, slips);
            for (int k : new int[] {1, 2, 19, 20}) {
                for (int n : new int[] {0, 1, 19, 20, 40, 99}) {
                    due.is(few(slips, k, n), x.few(k, n), "slips " + slips + ", k " + k + ", n " + n);
                }
            }
        }
        x.terms(1, 10);
        due.is(WHOLE, x.few(20, 19), "nineteen of nineteen slip: fewer than twenty");
        due.is(0, x.few(19, 19), "not fewer than nineteen");
    }

    private static long few(int slips, int k, int n) {
        long[] parts = new long[n + 2];
        parts[0] = WHOLE;
        for (int i = 0; i < n; i++) {
            long[] next = new long[n + 2];
            for (int j = 0; j <= i; j++) {
                next[j] += parts[j] * (10 - slips) / 10;
                next[j + 1] += parts[j] * slips / 10;
            }
            parts = next;
        }
        long sum = 0;
        for (int j = 0; j < k && j < parts.length; j++) {
            sum += parts[j];
        }
        return sum;
    }

    private static void compared() {
        due.says(III, "COMPARED: by how many thousandths a BUILDER DIES by a LAW in place of that in FORCE (NONE: none)");
        WallsLeft x = Due.with(30, 40);
        x.begin(1, 8);
        Due.law(x, "dies 5 + plot");
        Due.law(x, "lays 3");
        Due.force(x, "dies 700");
        due.is(4, x.compare(0, 0), "on none");
        due.is(13, x.compare(0, 1), "on his plot");
        due.is(30, x.compare(1, 0), "nothing but his age, not what is in force");
        due.is(700, x.compare(2, 0), "that in force itself");
        due.is(40, x.compare(-1, 1), "none: his age");
        due.is(2, x.count(13), "it stays in force");
        due.is(700, x.of(0, 4), "it stays in force");
    }

    // ---- IV

    private static void seedAndDraws() {
        due.says(IV, "CENTURIES with a SEED, n 1 .. 60 ... s is the SEED (0 .. 1,000,000); a DRAW of m: s becomes (s times 1103 and 12345)"
            + " modulo 1,000,003, it is s modulo m");
        for (int seed : new int[] {0, 1, 2, 500_000, 999_999, 1_000_000}) {
            WallsLeft x = Due.with(30);
            // The first draw is of 1,000: he dies, if it is below his thousandths.
            int first = Due.drawn(seed, 1) % 1000;
            Due.force(x, "dies " + first + "; lays 0");
            due.is(0, x.centuries(seed, 1), "it is not below itself");
            due.is(1, x.drawn(0, 2), "he lives, seed " + seed);
            Due.force(x, "dies " + first + " + 1; lays 0");
            x.centuries(seed, 1);
            due.is(0, x.drawn(0, 2), "he dies, seed " + seed);
            // The second is of 16: the plot that he begins.
            Due.force(x, "dies 0; lays 7");
            x.centuries(seed, 1);
            for (int plot = 0; plot < 16; plot++) {
                due.is(plot == Due.drawn(seed, 2) % 16 ? 7 : 0, x.drawn(plot, 0), "plot " + plot + ", seed " + seed);
            }
        }
        WallsLeft x = Due.with(30);
        for (int seed : new int[] {-1, 1_000_001, Due.LEAST, Due.MOST}) {
            due.is(-1, x.centuries(seed, 1), "seed " + seed);
        }
        for (int n : new int[] {0, 61, -1, Due.LEAST, Due.MOST}) {
            due.is(-1, x.centuries(0, n), "n " + n);
        }
        due.is(-1, x.drawn(0, 0), "nothing was drawn");
        Due.force(x, "dies 0; lays 0; dies 1000 if year = 59");
        x.centuries(0, 59);
        due.is(1, x.drawn(0, 2), "59 years: he lives");
        x.centuries(0, 60);
        due.is(0, x.drawn(0, 2), "60 years: he dies in the last");
    }

    private static void dies() {
        due.says(IV, "BUILDER by BUILDER who is ALIVE a DRAW of 1,000: he DIES, if that is below his thousandths");
        WallsLeft x = Due.with(30, 40, 50, 60);
        Due.wall(x, 0, 3, 4);
        x.begin(2, 4);
        x.die(1);
        Due.force(x, "lays 0; dies 0; dies 1000 if builder = 0");
        // The draws are the first's, then the third's (who is on a plot), then the fourth's and his plot: the dead draw nothing.
        int plot = Due.drawn(2, 4) % 16;
        due.so(plot != 3 && plot != 4, "a plot that he can begin");
        due.so(plot != Due.drawn(2, 3) % 16 && plot != Due.drawn(2, 5) % 16, "another one than by a draw less or more");
        due.is(1, x.centuries(2, 1), "one plot is left");
        due.is(1, x.drawn(3, 1), "his");
        due.is(4, x.drawn(3, 0), "its courses stay");
        due.is(0, x.drawn(0, 2), "dead");
        due.is(0, x.drawn(1, 2), "dead ahead of it");
        due.is(1, x.drawn(2, 2), "alive");
        due.is(1, x.drawn(3, 2), "alive");
        Due.force(x, "dies 0; dies 1000 if builder = 0; lays 0; lays 5 if builder = 3");
        x.centuries(2, 1);
        due.is(plot, stands(x, 5), "the fourth's plot is drawn fourth");
    }

    /** The plot that has so many courses behind the latest centuries. */
    private static int stands(WallsLeft x, int courses) {
        for (int plot = 0; plot < 16; plot++) {
            if (x.drawn(plot, 0) == courses) {
                return plot;
            }
        }
        return -1;
    }

    private static void begins() {
        due.says(IV, "else, if he is FREE, a DRAW of 16: he BEGINS that PLOT, if he can");
        WallsLeft x = Due.with(30);
        int first = Due.drawn(5, 2) % 16;
        int second = Due.drawn(5, 4) % 16;
        due.so(first != second, "two plots");
        Due.force(x, "dies 0; lays 6; bars if year = 0");
        x.centuries(5, 1);
        due.is(-1, stands(x, 6), "barred in the first year");
        x.centuries(5, 2);
        due.is(second, stands(x, 6), "he begins in the second, by the fourth draw");
        Due.force(x, "dies 0; lays 9");
        x.centuries(5, 2);
        due.is(9, x.drawn(first, 0), "the first, done in a year");
        due.is(9, x.drawn(second, 0), "free again, the second");
        Due.force(x, "dies 0; lays 4");
        x.centuries(5, 2);
        due.is(8, x.drawn(first, 0), "on a plot he draws for none");
        due.is(0, x.drawn(second, 0), "on a plot he draws for none");
        // He who dies draws no plot: the next one's draw comes at once.
        WallsLeft two = Due.with(30, 40);
        Due.force(two, "dies 0; dies 1000 if builder = 0; lays 6");
        two.centuries(5, 1);
        due.is(Due.drawn(5, 3) % 16, stands(two, 6), "the second's plot is drawn third");
        // What the second draws is the first's plot: he can't.
        int seed = 0;
        while (Due.drawn(seed, 2) % 16 != Due.drawn(seed, 4) % 16) {
            seed++;
        }
        Due.force(two, "dies 0; lays 6 - builder * 5");
        two.centuries(seed, 1);
        due.is(Due.drawn(seed, 2) % 16, stands(two, 6), "the first's plot");
        due.is(-1, stands(two, 1), "the second has none");
    }

    private static void belowLastYear() {
        due.says(IV, "Each time, as long as YEAR is below 999 ... then the YEAR passes");
        WallsLeft x = Due.with(30);
        x.terms(0, 997);
        x.begin(0, 3);
        Due.force(x, "dies 0; lays 1");
        x.centuries(0, 60);
        due.is(2, x.drawn(3, 0), "997, 998");
        Due.force(x, "dies 0; dies 1000 if year = 999; lays 1");
        due.is(0, x.centuries(0, 60), "nobody dies in 999");
        due.is(1, x.drawn(0, 2), "nobody dies in 999");
        x.terms(0, 999);
        Due.force(x, "dies 1000");
        due.is(0, x.centuries(0, 60), "nothing is drawn");
        due.is(1, x.drawn(0, 2), "he lives");
        due.is(0, x.status(), "not refused");
        WallsLeft old = Due.with(98);
        old.begin(0, 3);
        Due.force(old, "lays 0; dies 0; dies 1000 if age = 99 and year = 2");
        old.centuries(0, 2);
        due.is(1, old.drawn(0, 2), "two years");
        old.centuries(0, 3);
        due.is(0, old.drawn(0, 2), "a year older each, 99 at most");
    }

    private static void onPaper() {
        due.says(IV, "CENTURIES ... on paper");
        WallsLeft x = Due.with(30, 40);
        Due.wall(x, 0, 3, 4);
        Due.force(x, "dies 1000 if year > 4; lays 2");
        x.centuries(9, 60);
        due.is(4, x.at(3, 0), "courses");
        due.is(0, x.count(2), "what is left");
        due.is(0, x.count(3), "what is done");
        due.is(2, x.count(1), "who is alive");
        due.is(3, x.of(0, 3), "on what");
        due.is(-1, x.of(1, 3), "on what");
        due.is(30, x.of(0, 0), "age");
        due.is(0, x.count(14), "year");
        due.is(5, x.count(6), "what can be undone");
    }

    private static void bubbles() {
        due.says(IV, "one that can't be, one within which the TAPE ends, one for which there is no room is a BUBBLE: nothing");
        WallsLeft x = new WallsLeft();
        int[][] bad = {{15, 1}, {100, 1}, {16, 0}, {16, 4}, {0, 0}, {255, 255}, {16}, {0}};
        for (int[] one : bad) {
            due.is(0, Due.row(x, one), "none came");
            due.is(1, x.bubbles(), "a bubble");
            due.is(0, x.count(0), "nothing");
            due.is(0, x.status(), "not refused");
        }
        due.is(2, Due.row(x, 16, 1, 99, 3, 50), "the tape ends within the third");
        due.is(1, x.bubbles(), "a bubble");
        due.is(16, x.of(0, 0), "the youngest");
        due.is(3, x.of(1, 1), "the fastest");
        due.is(4, Due.row(x, 20, 1, 21, 1, 15, 1, 22, 1, 23, 1, 24, 1, 25, 1), "room for four");
        due.is(3, x.bubbles(), "one that can't be, two without room");
        due.is(23, x.of(5, 0), "the last");
        due.is(0, Due.row(x, 30, 1, 30), "there is no room");
        due.is(2, x.bubbles(), "two");
        int[] all = new int[400];
        due.is(0, Due.row(x, all), "the longest tape");
        due.is(200, x.bubbles(), "two hundred");
    }

    private static void kept() {
        due.says(IV, "BACK to one all that it keeps is as it was then (IMAGES stay)");
        WallsLeft x = Due.with(30, 40);
        x.terms(0, 12);
        x.terms(1, 4);
        x.terms(2, 5);
        Due.force(x, "dies 7; lays 2");
        x.seen(2, 4);
        Due.wall(x, 0, 4, 3);
        Due.wall(x, 1, 5, 2);
        x.die(1);
        x.image(1);
        for (int i = 0; i < 2; i++) {
            x.builder(50, 1);
            x.terms(0, 1);
            x.terms(1, 1);
            x.terms(2, 1);
            Due.force(x, "dies 8; lays 3");
            x.forget();
            x.seen(9, 9);
            x.seen(9, 9);
            x.lay(0);
            x.begin(2, 9);
            x.die(0);
            x.pass();
            due.is(0, x.back(1), "back");
            int[] counts = {2, 1, 1 << 5, 0, 1, 1, 0, 0};
            for (int what = 0; what < counts.length; what++) {
                due.is(counts[what], x.count(what), "count " + what);
            }
            due.is(0, x.count(13), "the law in force");
            due.is(12, x.count(14), "year");
            due.is(4, x.count(15), "slips");
            due.is(5, x.count(16), "mood");
            due.is(7, x.of(0, 4), "the law's words");
            due.is(3, x.at(4, 0), "courses");
            due.is(2, x.at(5, 0), "courses");
            due.is(0, x.at(9, 0), "courses");
            due.is(4, x.of(0, 3), "on what");
            due.is(30, x.of(0, 0), "age");
            due.is(0, x.of(1, 2), "who is alive");
            due.is(-1, x.of(2, 0), "no third builder");
            due.is(1, x.canBe(), "what was seen");
        }
    }

    private static void notKept() {
        due.says(IV, "IMAGES 0, 1 keep all but the TAPE, FAULT, BUBBLES, where ORDERS stopped, what can be undone (nothing, behind back()),"
            + " the latest CENTURIES");
        WallsLeft x = Due.with(30, 40);
        x.pass();
        x.image(0);
        x.image(1);
        due.is(1, x.count(6), "image() leaves what can be undone");
        Due.row(x, 1, 1, 1, 1, 1);
        Due.orders(x, "pass; lay 0");
        due.is(-1, x.fault(), "read");
        Due.law(x, "dies");
        x.begin(0, 3);
        Due.force(x, "dies 0; lays 1");
        x.centuries(3, 5);
        due.is(5, x.drawn(3, 0), "five courses");
        Due.law(x, "dies ?");
        x.feed(1, 2, 3, 4, 5);
        x.end(13);
        due.is(0, x.back(1), "back");
        due.is(13, x.count(7), "the tape stays");
        due.is(5, x.fault(), "the fault stays");
        due.is(3, x.bubbles(), "the bubbles stay");
        due.is(1, x.stopped(), "where orders stopped stays");
        due.is(5, x.drawn(3, 0), "the latest centuries stay");
        due.is(0, x.count(6), "nothing can be undone");
        due.is(-3, x.undo(), "nothing can be undone");
        due.is(31, x.of(0, 0), "the year stays passed");
    }
}
