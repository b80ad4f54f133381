/** Promises 1 to 41, each by ordinary inputs, edges and wrong inputs; EdgesTest has a test for each sentence of an edge. */
public final class PromisesTest {
    private static final Due due = new Due("PromisesTest");
    private static final long WHOLE = Due.WHOLE;
    private static final int LEAST = Due.LEAST;
    private static final int MOST = Due.MOST;

    public static void main(String[] args) {
        newObject();
        builder();
        of();
        at();
        can();
        terms();
        feedAndEnd();
        rowAndBubbles();
        law();
        orders();
        faultAndStopped();
        force();
        begin();
        lay();
        die();
        pass();
        undo();
        undoKeepsSixteen();
        undoAndOtherCalls();
        chance();
        chanceOnPaper();
        years();
        lives();
        plan();
        planFirstOfAlike();
        bridge();
        stair();
        stretchAndRooms();
        seat();
        seenAndForget();
        canBe();
        look();
        few();
        compare();
        centuries();
        drawn();
        imageAndBack();
        count();
        status();
        due.end();
    }

    private static void newObject() {
        due.promise(1, "WallsLeft");
        WallsLeft x = new WallsLeft();
        due.is(-1, WallsLeft.NONE, "NONE");
        for (int plot = 0; plot < 16; plot++) {
            due.is(0, x.at(plot, 0), "courses");
            due.is(0, x.at(plot, 1), "left");
            due.is(-1, x.at(plot, 2), "builder");
            due.is(0, x.at(plot, 3), "worth");
        }
        int[] counts = {0, 0, 0, 0, 0, 0, 0, 0, 0, 0, 0, 0, 0, -1, 0, 1, 0};
        for (int what = 0; what < counts.length; what++) {
            due.is(counts[what], x.count(what), "count " + what);
        }
        due.is(-1, x.fault(), "fault");
        due.is(-1, x.stopped(), "stopped");
        due.is(0, x.bubbles(), "bubbles");
        due.is(0, x.status(), "status");
        due.is(-1, x.drawn(0, 0), "drawn");
        due.is(-3, x.undo(), "undo");
    }

    private static void builder() {
        due.promise(2, "builder");
        WallsLeft x = new WallsLeft();
        int[][] wrong = {{15, 1}, {100, 1}, {16, 0}, {16, 4}, {LEAST, 1}, {MOST, 1}, {50, LEAST}, {50, MOST}};
        for (int[] w : wrong) {
            due.is(-1, x.builder(w[0], w[1]), "builder " + w[0] + ", " + w[1]);
        }
        due.is(0, x.count(0), "none came");
        int[][] right = {{16, 1}, {99, 3}, {50, 2}, {17, 1}, {98, 3}, {16, 3}};
        for (int i = 0; i < 6; i++) {
            due.is(i, x.builder(right[i][0], right[i][1]), "builder " + i);
            due.is(right[i][0], x.of(i, 0), "age");
            due.is(right[i][1], x.of(i, 1), "pace");
            due.is(1, x.of(i, 2), "alive");
            due.is(-1, x.of(i, 3), "free");
        }
        due.is(-5, x.builder(30, 2), "a seventh");
        due.is(-1, x.builder(15, 2), "a number that can't be comes ahead of no room");
        due.is(6, x.count(0), "six");
    }

    private static void of() {
        due.promise(3, "of");
        WallsLeft x = Due.with(30, 40);
        x.begin(1, 7);
        due.is(7, x.of(1, 3), "the plot");
        due.is(40, x.of(1, 4), "dies by age without a law");
        due.is(1, x.of(1, 5), "lays by pace without a law");
        Due.force(x, "dies 1000 + 1; lays 10");
        due.is(1000, x.of(0, 4), "the nearest to what is above 1,000");
        due.is(9, x.of(0, 5), "the nearest to what is above 9");
        Due.force(x, "dies 0 - 1; lays 0 - 1");
        due.is(0, x.of(0, 4), "the nearest to what is below 0");
        due.is(0, x.of(0, 5), "the nearest to what is below 0");
        Due.force(x, "dies plot + 2; lays plot + 2");
        due.is(9, x.of(1, 4), "asked of the plot on which he is");
        due.is(1, x.of(0, 4), "asked of no plot");
        due.is(1, x.of(0, 5), "asked of no plot");
        x.die(1);
        due.is(0, x.of(1, 2), "dead");
        due.is(-1, x.of(1, 3), "on none");
        due.is(1, x.of(1, 4), "the dead are asked of, too");
        for (int what : new int[] {-1, 6, LEAST, MOST}) {
            due.is(-1, x.of(0, what), "what " + what);
        }
        for (int one : new int[] {-1, 2, 6, LEAST, MOST}) {
            for (int what = 0; what < 6; what++) {
                due.is(-1, x.of(one, what), "builder " + one);
            }
        }
    }

    private static void at() {
        due.promise(4, "at");
        WallsLeft x = Due.with(30, 40);
        Due.wall(x, 1, 15, 3);
        due.is(3, x.at(15, 0), "courses");
        due.is(0, x.at(15, 1), "not left");
        due.is(1, x.at(15, 2), "who is on it");
        due.is(3, x.at(15, 3), "worth its courses without a law");
        x.die(1);
        due.is(1, x.at(15, 1), "left");
        due.is(-1, x.at(15, 2), "nobody on it");
        Due.force(x, "worth 100 if left = 1; worth 0 - 1 if left = 0");
        due.is(99, x.at(15, 3), "worth 99 at most");
        due.is(0, x.at(0, 3), "worth 0 at least");
        for (int what : new int[] {-1, 4, LEAST, MOST}) {
            due.is(-1, x.at(0, what), "what " + what);
        }
        for (int plot : new int[] {-1, 16, LEAST, MOST}) {
            for (int what = 0; what < 4; what++) {
                due.is(-1, x.at(plot, what), "plot " + plot);
            }
        }
    }

    private static void can() {
        due.promise(5, "can");
        WallsLeft x = Due.with(30, 40, 50);
        due.is(1, x.can(0, 0), "a bare plot");
        x.begin(0, 3);
        due.is(0, x.can(0, 4), "he is on a plot");
        due.is(0, x.can(1, 3), "somebody is on it");
        x.die(0);
        due.is(0, x.can(0, 4), "he is dead");
        due.is(0, x.can(1, 3), "it is left");
        Due.wall(x, 1, 5, 9);
        due.is(0, x.can(2, 5), "it is done");
        due.is(1, x.can(1, 6), "who ended a wall is free");
        Due.force(x, "bars if plot = 6 and age = 40 and courses = 0 and left = 0");
        due.is(0, x.can(1, 6), "barred to him");
        due.is(1, x.can(2, 6), "not barred to another one");
        due.is(1, x.can(1, 7), "another plot");
        Due.force(x, "bars if 1 / 0 = 1");
        due.is(1, x.can(1, 6), "a broken if bars nothing");
        Due.force(x, "bars; dies 1");
        due.is(0, x.can(1, 6), "barred without an if");
        due.is(-1, x.can(3, 0), "no such builder");
        due.is(-1, x.can(-1, 0), "no such builder");
        due.is(-1, x.can(1, 16), "no such plot");
        due.is(-1, x.can(1, -1), "no such plot");
    }

    private static void terms() {
        due.promise(6, "terms");
        WallsLeft x = new WallsLeft();
        int[] first = {0, 1, 0};
        int[] most = {999, 10, 9};
        for (int what = 0; what < 3; what++) {
            due.is(first[what], x.terms(what, most[what]), "what it was");
            due.is(most[what], x.terms(what, 0), "what it was");
            due.is(0, x.terms(what, 2), "what it was");
            due.is(-1, x.terms(what, most[what] + 1), "too high");
            due.is(-1, x.terms(what, -1), "too low");
            due.is(2, x.count(14 + what), "it stays");
        }
        for (int what : new int[] {-1, 3, LEAST, MOST}) {
            due.is(-1, x.terms(what, 0), "what " + what);
        }
    }

    private static void feedAndEnd() {
        due.promise(7, "feed");
        WallsLeft x = new WallsLeft();
        for (int i = 1; i <= 20; i++) {
            due.is(20 * i, x.feed(1, 2, 3, 4, 5), "so many bytes");
        }
        due.is(-1, x.feed(1, 2, 3, 4, 5), "no more than 400");
        due.is(400, x.count(7), "400 stay");
        due.is(381, x.end(381), "end");
        due.is(-1, x.feed(1, 2, 3, 4, 5), "401 are too many");
        due.is(380, x.end(380), "end");
        due.is(400, x.feed(1, 2, 3, 4, 5), "400 are not");
        x.end(0);
        x.feed(0x10011102, 0x12031301, 0x14020000, 0, 0);
        x.end(10);
        due.is(5, x.row(), "the highest byte first");
        for (int i = 0; i < 5; i++) {
            due.is(16 + i, x.of(i, 0), "age");
            due.is(1 + i % 3, x.of(i, 1), "pace");
        }
        due.is(0, x.status(), "feed() and end() are not refused");
        due.promise(8, "end");
        x.feed(0, 0, 0, 0, 0);
        due.is(-1, x.end(21), "it has not so many");
        due.is(-1, x.end(-1), "below 0");
        due.is(-1, x.end(LEAST), "below 0");
        due.is(20, x.end(20), "all");
        due.is(7, x.end(7), "the first alone");
        due.is(-1, x.end(8), "what is gone is gone");
        due.is(0, x.end(0), "none");
        due.is(0, x.count(7), "none");
    }

    private static void rowAndBubbles() {
        due.promise(9, "row");
        WallsLeft x = new WallsLeft();
        due.is(-6, x.row(), "an empty tape");
        x.feed(0x1E010F01, 0x1E041E00, 0x64012802, 0x1E010000, 0);
        x.end(13);
        due.is(2, x.row(), "how many came");
        due.is(0, x.count(7), "the tape is empty then");
        due.is(30, x.of(0, 0), "age");
        due.is(40, x.of(1, 0), "age");
        due.is(2, x.of(1, 1), "pace");
        due.promise(10, "bubbles");
        due.is(5, x.bubbles(), "15, pace 4, pace 0, 100, the one that the tape cuts");
        x.row();
        due.is(5, x.bubbles(), "a row that was refused does not tell");
        x.feed(0x1E011E01, 0x1E011E01, 0x1E011E01, 0, 0);
        x.end(12);
        due.is(4, x.row(), "as many as there is room for");
        due.is(2, x.bubbles(), "no room for two");
        x.feed(0x1EFF00FF, 0, 0, 0, 0);
        x.end(3);
        due.is(0, x.row(), "none came: not refused");
        due.is(2, x.bubbles(), "bubbles alone");
        due.is(0, x.status(), "status");
    }

    private static void law() {
        due.promise(11, "law");
        WallsLeft x = Due.with(30);
        x.pass();
        due.is(-6, x.law(), "nothing on the tape");
        due.is(0, x.fault(), "its fault");
        for (int i = 0; i < 6; i++) {
            due.is(i, Due.law(x, "dies " + (100 + i)), "its number");
            due.is(0, x.count(7), "the tape is empty");
        }
        due.is(31, x.of(0, 4), "none is in force");
        x.force(5);
        due.is(105, x.of(0, 4), "the last in force");
        x.force(0);
        due.is(100, x.of(0, 4), "the first in force");
        Due.orders(x, "pass pass");
        due.is(-5, Due.law(x, "dies"), "no room, ahead of reading");
        due.is(5, x.fault(), "the fault of what was read");
        due.is(0, x.count(7), "the tape is empty then, too");
        due.is(1, x.count(6), "what can be undone stays");
    }

    private static void orders() {
        due.promise(12, "orders");
        WallsLeft x = Due.with(30, 40);
        due.is(6, Due.orders(x, "begin 0 at 2; begin 1 at 3; lay 0 times 3; pass"), "how many were run");
        due.is(4, x.at(2, 0), "courses");
        due.is(1, x.at(3, 0), "courses");
        due.is(31, x.of(0, 0), "age");
        due.is(0, x.count(7), "the tape is empty");
        due.is(1, Due.orders(x, "die 1"), "die");
        x.builder(35, 1);
        due.is(1, Due.orders(x, "die 2"), "one who is free leaves nothing, and dies");
        due.is(0, x.of(2, 2), "dead");
        due.is(1, x.at(3, 1), "left");
        due.is(-3, Due.orders(x, "pass; die 1"), "one can't be");
        due.is(31, x.of(0, 0), "nothing was run");
        due.is(-3, x.status(), "refused");
        due.is(1, x.count(10), "once, for the whole of it");
        due.is(-6, Due.orders(x, "pass; die"), "it can't be read");
        due.is(-6, x.orders(), "an empty tape");
        due.is(0, x.fault(), "its fault");
        due.is(0, Due.orders(x, "pass if 1 = 2"), "none was run");
        due.is(1, x.count(6), "what was run behind a builder came can be undone");
        due.is(20, Due.orders(x, "pass times 20"), "twenty times");
        due.is(16, x.count(6), "sixteen are kept");
        due.is(-3, Due.orders(x, "pass times 20; die 7"), "nothing is run");
        due.is(16, x.count(6), "sixteen are kept still");
        due.is(51, x.of(0, 0), "age");
        for (int i = 0; i < 16; i++) {
            due.is(3, x.undo(), "each was a year");
        }
        due.is(35, x.of(0, 0), "age sixteen years ahead of it");
        due.is(-3, x.undo(), "no more are kept");
    }

    private static void faultAndStopped() {
        due.promise(13, "fault");
        WallsLeft x = Due.with(30);
        Due.law(x, "dies 1 +");
        due.is(8, x.fault(), "of a law");
        Due.orders(x, "lay");
        due.is(3, x.fault(), "of orders");
        Due.orders(x, "die 3");
        due.is(-1, x.fault(), "none of what can be read");
        Due.law(x, "nothing");
        due.is(0, x.fault(), "at the start");
        Due.law(x, "dies 3");
        due.is(-1, x.fault(), "none");
        due.promise(14, "stopped");
        due.is(0, x.stopped(), "the first clause of the latest orders");
        Due.orders(x, "pass; pass times 3; die 0 times 2; pass");
        due.is(2, x.stopped(), "the third");
        Due.orders(x, "pass");
        due.is(-1, x.stopped(), "done");
        Due.orders(x, "lay 0");
        due.is(0, x.stopped(), "the first");
        Due.orders(x, "?");
        due.is(-1, x.stopped(), "refused by -6");
    }

    private static void force() {
        due.promise(15, "force");
        WallsLeft x = Due.with(30);
        due.is(-2, x.force(0), "no such law");
        Due.law(x, "dies 1");
        Due.law(x, "dies 2");
        x.pass();
        due.is(-1, x.force(1), "none was");
        due.is(0, x.status(), "NONE was told, nothing refused");
        due.is(2, x.of(0, 4), "in force");
        due.is(1, x.force(0), "which was");
        due.is(-2, x.force(2), "no such law");
        due.is(-2, x.force(-2), "no such law");
        due.is(-2, x.force(MOST), "no such law");
        due.is(0, x.count(13), "it stays");
        due.is(0, x.force(-1), "none");
        due.is(-1, x.count(13), "none");
        due.is(31, x.of(0, 4), "none in force");
        due.is(1, x.count(6), "what can be undone stays");
    }

    private static void begin() {
        due.promise(16, "begin");
        WallsLeft x = Due.with(30, 40, 50);
        due.is(-1, x.begin(7, 16), "the plot comes ahead of the builder");
        due.is(-1, x.begin(0, -1), "no plot");
        due.is(-2, x.begin(3, 0), "no such builder");
        due.is(-2, x.begin(-1, 0), "no such builder");
        due.is(2, x.begin(0, 0), "two are free then");
        due.is(-3, x.begin(0, 1), "he is on a plot");
        due.is(-3, x.begin(1, 0), "somebody is on it");
        x.die(2);
        due.is(-3, x.begin(2, 1), "he is dead");
        due.is(0, x.begin(1, 15), "none is free and alive then");
        due.is(15, x.of(1, 3), "on the plot");
        x.die(1);
        x.builder(20, 1);
        due.is(-3, x.begin(3, 15), "it is left, with no course");
        Due.force(x, "bars if builder = 3 and plot = 4");
        due.is(-3, x.begin(3, 4), "barred");
        due.is(0, x.begin(3, 5), "not barred");
    }

    private static void lay() {
        due.promise(17, "lay");
        WallsLeft x = Due.with(30);
        due.is(-2, x.lay(1), "no such builder");
        due.is(-2, x.lay(-1), "no such builder");
        due.is(-3, x.lay(0), "he is on none");
        x.begin(0, 4);
        for (int i = 1; i <= 8; i++) {
            due.is(i, x.lay(0), "courses then");
            due.is(4, x.of(0, 3), "on it");
        }
        due.is(9, x.lay(0), "the ninth");
        due.is(-1, x.of(0, 3), "free");
        due.is(0, x.at(4, 1), "done is not left");
        due.is(-3, x.lay(0), "on none");
        due.is(30, x.of(0, 0), "no year passed");
    }

    private static void die() {
        due.promise(18, "die");
        WallsLeft x = Due.with(30, 40, 50);
        due.is(-2, x.die(3), "no such builder");
        due.is(-2, x.die(-1), "no such builder");
        Due.wall(x, 0, 4, 5);
        due.is(5, x.die(0), "what is left");
        due.is(1, x.at(4, 1), "left");
        due.is(5, x.at(4, 0), "its courses stay");
        due.is(-3, x.die(0), "dead");
        due.is(0, x.die(1), "free: nothing is left");
        due.is(16, x.count(2), "one plot is left");
        x.begin(2, 0);
        due.is(0, x.die(2), "no course");
        due.is(17, x.count(2), "left all the same");
        due.is(0, x.count(1), "none is alive");
    }

    private static void pass() {
        due.promise(19, "pass");
        WallsLeft x = new WallsLeft();
        x.builder(30, 3);
        x.builder(99, 2);
        x.builder(40, 1);
        x.builder(50, 1);
        x.begin(0, 0);
        x.begin(1, 1);
        x.die(3);
        due.is(5, x.pass(), "courses that came");
        due.is(31, x.of(0, 0), "a year older");
        due.is(99, x.of(1, 0), "99 at most");
        due.is(41, x.of(2, 0), "the free, too");
        due.is(50, x.of(3, 0), "not the dead");
        due.is(1, x.count(14), "the next year");
        due.is(5, x.pass(), "6 and 4");
        due.is(5, x.pass(), "9 and 6");
        due.is(-1, x.of(0, 3), "done, free");
        due.is(1, x.of(1, 3), "not done");
        due.is(2, x.pass(), "8");
        due.is(1, x.pass(), "what 9 cuts off, not");
        due.is(9, x.at(1, 0), "9 at most");
        due.is(0, x.pass(), "nobody builds");
        Due.force(x, "lays year - 5");
        x.begin(2, 9);
        due.is(1, x.pass(), "by the year as it is ahead of it");
        due.is(2, x.pass(), "by the year as it is ahead of it");
        x.terms(0, 998);
        due.is(6, x.pass(), "998 can pass");
        due.is(-3, x.pass(), "999 can't");
        due.is(999, x.count(14), "it stays");
    }

    private static void undo() {
        due.promise(20, "undo");
        WallsLeft x = Due.with(30, 40);
        due.is(-3, x.undo(), "there is none");
        Due.wall(x, 0, 4, 8);
        x.begin(1, 5);
        x.lay(0);
        x.die(1);
        x.pass();
        due.is(3, x.undo(), "a year");
        due.is(30, x.of(0, 0), "age");
        due.is(0, x.count(14), "year");
        due.is(2, x.undo(), "a death");
        due.is(1, x.of(1, 2), "alive");
        due.is(5, x.of(1, 3), "on");
        due.is(0, x.at(5, 1), "not left");
        due.is(1, x.undo(), "a course");
        due.is(8, x.at(4, 0), "courses");
        due.is(4, x.of(0, 3), "on it again");
        due.is(0, x.undo(), "a beginning");
        due.is(-1, x.of(1, 3), "free");
        due.is(9, x.count(6), "a beginning and eight courses are left");
    }

    private static void undoKeepsSixteen() {
        due.promise(20, "undo of sixteen");
        WallsLeft x = Due.with(30);
        for (int i = 0; i < 21; i++) {
            x.pass();
            due.is(Math.min(16, i + 1), x.count(6), "how many");
        }
        for (int i = 0; i < 16; i++) {
            due.is(3, x.undo(), "undone");
            due.is(50 - i, x.of(0, 0), "age");
        }
        due.is(-3, x.undo(), "no more");
        due.is(5, x.count(14), "five years stay");
    }

    private static void undoAndOtherCalls() {
        due.promise(20, "undo and other calls");
        WallsLeft bare = new WallsLeft();
        bare.pass();
        due.is(0, bare.builder(30, 1), "the first builder");
        due.is(-3, bare.undo(), "nothing ahead of him can be undone");
        WallsLeft x = Due.with(30);
        x.image(0);
        for (int i = 0; i < 4; i++) {
            x.pass();
            due.is(1, x.count(6), "it can be");
            switch (i) {
                case 0: x.builder(20, 1); break;
                case 1: x.terms(2, 4); break;
                case 2: x.feed(0, 0, 0, 0, 0); x.row(); break;
                default: x.back(0); break;
            }
            due.is(0, x.count(6), "not ahead of this call");
            due.is(-3, x.undo(), "refused");
        }
        x.pass();
        x.builder(15, 1);
        x.terms(0, -1);
        x.row();
        x.back(1);
        x.back(2);
        x.image(1);
        x.image(0);
        Due.law(x, "dies 5");
        x.force(0);
        x.seen(1, 1);
        x.forget();
        x.centuries(7, 3);
        Due.orders(x, "pass if 1 = 2");
        Due.orders(x, "die 7");
        due.is(1, x.count(6), "what was refused, or does nothing to it, leaves it");
        due.is(3, x.undo(), "undone");
        due.is(0, x.count(13), "the law stays in force");
    }

    private static void chance() {
        due.promise(21, "chance");
        WallsLeft x = Due.with(30, 40, 50);
        Due.force(x, "dies 500; lays 3");
        due.is(WHOLE / 8, x.chance(0, 0), "three years by halves");
        Due.wall(x, 0, 7, 4);
        due.is(WHOLE / 4, x.chance(0, 7), "from the courses that stand");
        due.is(WHOLE / 4, x.chance(1, 7), "whatever stands there");
        due.is(WHOLE / 8, x.chance(0, 1), "whatever he is on");
        Due.wall(x, 1, 8, 9);
        due.is(WHOLE, x.chance(2, 8), "at once, if it has nine");
        x.die(0);
        due.is(0, x.chance(0, 8), "of the dead, nine or not");
        due.is(WHOLE / 4, x.chance(2, 7), "of what is left");
        due.is(-1, x.chance(3, 0), "no such builder");
        due.is(-1, x.chance(-1, 0), "no such builder");
        due.is(-1, x.chance(0, 16), "no such plot, of the dead");
        due.is(-1, x.chance(1, -1), "no such plot");
        Due.force(x, "dies 333; lays 5");
        due.is(WHOLE * 667 / 1000 * 667 / 1000, x.chance(1, 0), "two years by thousandths");
        Due.force(x, "dies 1; lays 1");
        long parts = WHOLE;
        for (int i = 0; i < 9; i++) {
            parts = parts * 999 / 1000;
        }
        due.is(parts, x.chance(1, 0), "cut each time");
    }

    private static void chanceOnPaper() {
        due.promise(21, "chance on paper");
        WallsLeft x = Due.with(30, 98);
        Due.force(x, "lays 0; dies 0; lays 9 if year = 98");
        due.is(WHOLE, x.chance(0, 0), "in the 99th year");
        due.is(99, x.years(0, 0), "99 years");
        Due.force(x, "lays 0; dies 0; lays 9 if year = 99");
        due.is(0, x.chance(0, 0), "not in 99 years");
        due.is(-1, x.years(0, 0), "not in 99 years");
        Due.force(x, "lays 3; dies 0; dies 500 if age = 99");
        due.is(WHOLE / 4, x.chance(1, 0), "99 is the highest age");
        Due.force(x, "lays 3; dies 0; dies 500 if courses = 3; dies 100 if courses = 6");
        due.is(WHOLE * 45 / 100, x.chance(0, 0), "by the courses as they are then");
        x.terms(0, 998);
        Due.force(x, "lays 3; dies 0; dies 500 if year > 999");
        due.is(WHOLE / 2, x.chance(0, 0), "years go on beyond 999");
        due.is(998, x.count(14), "on paper alone");
        due.is(0, x.at(0, 0), "on paper alone");
    }

    private static void years() {
        due.promise(22, "years");
        WallsLeft x = new WallsLeft();
        x.builder(30, 1);
        x.builder(30, 2);
        x.builder(30, 3);
        due.is(9, x.years(0, 0), "pace 1");
        due.is(5, x.years(1, 0), "pace 2");
        due.is(3, x.years(2, 0), "pace 3");
        Due.wall(x, 0, 4, 7);
        due.is(1, x.years(2, 4), "two courses are wanting");
        x.lay(0);
        x.lay(0);
        due.is(0, x.years(2, 4), "none is wanting");
        Due.force(x, "dies 1000; lays 1 if age < 32; lays 5 if age = 32");
        due.is(5, x.years(0, 0), "if he lives; 1, 1, 5, then his pace");
        due.is(-1, x.years(3, 0), "no such builder");
        due.is(-1, x.years(0, 16), "no such plot");
        due.is(-1, x.years(0, -1), "no such plot");
        x.die(1);
        due.is(-1, x.years(1, 4), "he is dead");
        Due.force(x, "lays 0");
        due.is(-1, x.years(0, 0), "never");
        due.is(0, x.years(0, 4), "at once");
    }

    private static void lives() {
        due.promise(23, "lives");
        WallsLeft x = Due.with(30, 40);
        due.is(WHOLE, x.lives(0, 0), "no year");
        due.is(WHOLE * 970 / 1000 * 969 / 1000, x.lives(0, 2), "30, 31 thousandths");
        Due.wall(x, 0, 3, 2);
        Due.force(x, "dies 100 * courses; lays 9; dies 0 if plot < 0");
        due.is(WHOLE * 512 / 1000, x.lives(0, 3), "on his plot as it is");
        due.is(WHOLE, x.lives(1, 99), "on none");
        Due.force(x, "dies 0; dies 500 if year = 2 or year = 100");
        due.is(WHOLE, x.lives(0, 2), "years 0, 1");
        due.is(WHOLE / 2, x.lives(0, 3), "year 2");
        Due.force(x, "dies 1000");
        due.is(0, x.lives(0, 1), "he dies");
        due.is(WHOLE, x.lives(0, 0), "not at once");
        x.die(1);
        due.is(0, x.lives(1, 0), "the dead");
        due.is(-1, x.lives(1, 100), "too many, of the dead");
        due.is(-1, x.lives(0, 100), "too many");
        due.is(-1, x.lives(0, -1), "too few");
        due.is(-1, x.lives(2, 1), "no such builder");
        due.is(-1, x.lives(-1, 1), "no such builder");
    }

    private static void plan() {
        due.promise(24, "plan");
        WallsLeft x = Due.with(30, 30, 30);
        // Builder 0 has a quarter anywhere, 1 a half on plot 5 and else nothing, 2 all on 5 and a half on 9.
        Due.force(x, "lays 9; dies 750 if builder = 0; dies 1000 if builder = 1; dies 500 if builder = 1 and plot = 5;"
            + "dies 0 if builder = 2; dies 500 if builder = 2 and plot = 9");
        due.is(WHOLE, x.plan(1 << 5, -1), "one plot");
        due.is(-1, x.plan(1 << 5, 0), "none for him");
        due.is(-1, x.plan(1 << 5, 1), "none for him");
        due.is(5, x.plan(1 << 5, 2), "it is his");
        due.is(WHOLE * 5 / 4, x.plan(1 << 5 | 1 << 9, -1), "two plots");
        due.is(9, x.plan(1 << 5 | 1 << 9, 0), "to the second");
        due.is(5, x.plan(1 << 5 | 1 << 9, 2), "to the first");
        due.is(WHOLE * 7 / 4, x.plan(1 << 5 | 1 << 9 | 1 << 15, -1), "three plots");
        due.is(9, x.plan(1 << 5 | 1 << 9 | 1 << 15, 0), "the lower of two alike");
        due.is(15, x.plan(1 << 5 | 1 << 9 | 1 << 15, 2), "the other one");
        x.begin(2, 0);
        due.is(WHOLE * 3 / 4, x.plan(1 << 5 | 1 << 9 | 1, -1), "without who is on a plot, without what he is on");
        due.is(-1, x.plan(1 << 5 | 1 << 9 | 1, 2), "none for him");
        x.die(1);
        due.is(WHOLE / 4, x.plan(1 << 5 | 1 << 9, -1), "without the dead");
        due.is(0, x.plan(0, -1), "no plots");
        due.is(-1, x.plan(0, 0), "to none");
        due.is(WHOLE / 4, x.plan(0b111111 << 10, -1), "six plots");
        due.is(-1, x.plan(0b1111111, -1), "seven are too many");
        due.is(-1, x.plan(1 << 16, -1), "no such plot");
        due.is(-1, x.plan(-1, -1), "no plots at all");
        due.is(-1, x.plan(LEAST, -1), "no plots at all");
        due.is(-1, x.plan(1, 3), "no such builder");
        due.is(-1, x.plan(1, -2), "no such builder");
    }

    private static void planFirstOfAlike() {
        due.promise(24, "plan, the first of many alike");
        WallsLeft x = Due.with(30, 30, 30);
        Due.force(x, "dies 1000; lays 9");
        for (int b = 0; b < 3; b++) {
            due.is(2 + b, x.plan(0b111111 << 2, b), "to plots ahead of none, though nothing comes of it");
        }
        due.is(0, x.plan(0b111111 << 2, -1), "nothing comes of it");
        Due.force(x, "dies 0; lays 9; bars if plot = 2 and builder = 0");
        due.is(3, x.plan(0b1100, 0), "what is barred to him is not for him");
        due.is(2, x.plan(0b1100, 1), "it is for another one");
        due.is(-1, x.plan(0b1100, 2), "none is left over");
        due.is(2 * WHOLE, x.plan(0b1100, -1), "together");
        Due.force(x, "lays 0");
        due.is(2, x.plan(0b100, 0), "a chance of 0, ahead of none");
        WallsLeft six = Due.with(30, 31, 32, 33, 34, 35);
        Due.force(six, "lays 9; dies 900; dies 0 if builder + plot = 5");
        due.is(6 * WHOLE, six.plan(63, -1), "six to six");
        for (int b = 0; b < 6; b++) {
            due.is(5 - b, six.plan(63, b), "crosswise");
        }
    }

    private static void bridge() {
        due.promise(25, "bridge");
        WallsLeft x = Due.with(30, 40, 50);
        Due.force(x, "dies 500; lays 1");
        due.is(WHOLE * 3 / 4, x.bridge(0, 1, 1), "one of them lives");
        due.is(WHOLE / 4 + WHOLE / 4, x.bridge(0, 1, 2), "both at once, or one in two years");
        Due.force(x, "dies 0; dies 1000 if builder = 1; lays 1");
        due.is(WHOLE, x.bridge(0, 1, 40), "one alone in 40 years");
        Due.force(x, "dies 0; lays 0; lays 9 if year = 98");
        due.is(WHOLE, x.bridge(0, 1, 18), "in the 99th year");
        due.is(0, x.bridge(0, 1, 19), "not in 99 years");
        Due.force(x, "dies 0; lays 0; lays 9 if year = 99");
        due.is(0, x.bridge(0, 1, 1), "not in 99 years");
        Due.force(x, "dies 333; dies 667 if builder = 1; lays 9");
        long q = WHOLE * 667 / 1000;
        long both = q * 333 / 1000;
        long second = (WHOLE - q) * 333 / 1000;
        due.is(q + second, x.bridge(0, 1, 9), "cut");
        due.is(both + (q - both) * 667 / 1000 + second * 333 / 1000, x.bridge(0, 1, 10), "two years");
        x.begin(0, 7);
        Due.force(x, "dies 1000; dies 0 if plot = 0 - 1 and courses = 0 - 1; lays 9");
        due.is(WHOLE, x.bridge(0, 1, 1), "asked of no plot");
        x.die(1);
        due.is(WHOLE, x.bridge(0, 1, 1), "one is dead");
        due.is(WHOLE, x.bridge(1, 0, 1), "one is dead");
        x.die(0);
        due.is(0, x.bridge(0, 1, 1), "both are dead");
        // Parts that are left over in all three rows are gone by the next bridge.
        WallsLeft y = Due.with(30, 40);
        Due.force(y, "dies 500 if year < 2; dies 0 if year > 1; lays 1 if year < 2; lays 0 if year > 1");
        due.is(0, y.bridge(0, 1, 40), "not so many");
        Due.force(y, "dies 0; lays 1");
        due.is(WHOLE, y.bridge(0, 1, 5), "no parts of an earlier bridge");
        Due.force(y, "dies 0; lays builder + 1");
        due.is(WHOLE, y.bridge(0, 1, 7), "no parts of an earlier bridge");
        due.is(-1, x.bridge(2, 2, 1), "one alone");
        due.is(-1, x.bridge(0, 3, 1), "no such builder");
        due.is(-1, x.bridge(-1, 0, 1), "no such builder");
        due.is(-1, x.bridge(0, 2, 0), "too few courses");
        due.is(-1, x.bridge(0, 2, 41), "too many courses");
    }

    private static void stair() {
        due.promise(26, "stair");
        WallsLeft x = Due.with(30, 30, 30, 30, 30, 30);
        due.is(1, x.stair(0), "a plot alone");
        due.is(0, x.stair(1), "the first");
        Due.wall(x, 0, 13, 2);
        Due.wall(x, 1, 14, 3);
        Due.wall(x, 2, 15, 4);
        due.is(3, x.stair(0), "up to the end of the street");
        due.is(13, x.stair(1), "its first");
        Due.wall(x, 3, 5, 1);
        Due.wall(x, 4, 6, 2);
        due.is(3, x.stair(0), "another one as long");
        due.is(4, x.stair(1), "the first of them");
        Due.wall(x, 5, 12, 1);
        due.is(5, x.stair(0), "longer");
        due.is(11, x.stair(1), "its first");
        x.lay(2);
        due.is(4, x.stair(0), "two courses more are no stair");
        WallsLeft low = Due.with(30, 30);
        Due.wall(low, 0, 1, 1);
        due.is(2, low.stair(0), "from the first plot on");
        due.is(0, low.stair(1), "its first");
        Due.wall(low, 1, 0, 8);
        due.is(1, low.stair(0), "from 8 down to 1 is none");
        due.is(0, low.stair(1), "its first");
        due.is(-1, x.stair(2), "what 2");
        due.is(-1, x.stair(-1), "what -1");
    }

    private static void stretchAndRooms() {
        due.promise(27, "stretch");
        WallsLeft x = Due.with(30, 30, 30);
        due.is(16, x.stretch(1, 0), "the whole street");
        due.is(0, x.stretch(1, 1), "its first");
        Due.wall(x, 0, 5, 1);
        Due.wall(x, 1, 11, 5);
        due.is(5, x.stretch(1, 0), "of two alike");
        due.is(0, x.stretch(1, 1), "the first");
        due.is(11, x.stretch(2, 0), "below 2");
        Due.wall(x, 2, 3, 9);
        due.is(5, x.stretch(1, 0), "between the walls");
        due.is(6, x.stretch(1, 1), "its first");
        due.is(12, x.stretch(9, 0), "nine is not below nine");
        due.is(4, x.stretch(9, 1), "its first");
        for (int h : new int[] {0, 10, LEAST, MOST}) {
            due.is(-1, x.stretch(h, 0), "below " + h);
            due.is(-1, x.rooms(h), "rooms below " + h);
        }
        due.is(-1, x.stretch(1, 2), "what 2");
        due.is(-1, x.stretch(1, -1), "what -1");
        due.promise(28, "rooms");
        due.is(4, x.rooms(1), "0 to 2, 4, 6 to 10, 12 on");
        due.is(3, x.rooms(2), "0 to 2, 4 to 10, 12 on");
        due.is(2, x.rooms(6), "0 to 2, 4 on");
        WallsLeft early = Due.with(30);
        Due.wall(early, 0, 1, 1);
        due.is(2, early.rooms(1), "0 alone, 2 on");
        WallsLeft full = Due.with(30);
        for (int plot = 0; plot < 16; plot++) {
            Due.wall(full, 0, plot, 9);
        }
        due.is(0, full.stretch(9, 0), "nothing is below");
        due.is(-1, full.stretch(9, 1), "no first");
        due.is(0, full.rooms(9), "no rooms");
    }

    private static void seat() {
        due.promise(29, "seat");
        WallsLeft x = Due.with(30, 30, 30, 30);
        Due.wall(x, 0, 9, 9);
        due.is(-1, x.seat(), "done is not left");
        Due.wall(x, 0, 7, 2);
        Due.wall(x, 1, 3, 2);
        Due.wall(x, 2, 12, 0);
        due.is(-1, x.seat(), "nothing is left");
        x.die(2);
        due.is(12, x.seat(), "worth 0, the only one");
        x.die(0);
        due.is(7, x.seat(), "worth most");
        x.die(1);
        due.is(3, x.seat(), "the lowest of two alike");
        Due.force(x, "worth plot");
        due.is(12, x.seat(), "by law");
        Due.force(x, "worth 100 + plot");
        due.is(3, x.seat(), "99 all, the lowest");
        Due.wall(x, 3, 0, 0);
        x.die(3);
        due.is(0, x.seat(), "the first of the street");
    }

    private static void seenAndForget() {
        due.promise(30, "seen");
        WallsLeft x = Due.with(30);
        x.pass();
        int[][] wrong = {{-1, 0}, {21, 0}, {0, -1}, {0, 201}, {LEAST, 0}, {0, MOST}};
        for (int[] w : wrong) {
            due.is(-1, x.seen(w[0], w[1]), "seen " + w[0] + ", " + w[1]);
        }
        due.is(1, x.seen(0, 0), "once");
        due.is(2, x.seen(20, 200), "twice");
        for (int i = 3; i <= 6; i++) {
            due.is(i, x.seen(i, i), "how often");
        }
        due.is(-5, x.seen(1, 1), "no room");
        due.is(-1, x.seen(21, 1), "a number that can't be comes ahead of it");
        due.is(6, x.count(4), "six");
        due.is(1, x.count(6), "what can be undone stays");
        due.promise(31, "forget");
        due.is(6, x.forget(), "how often there was");
        due.is(0, x.forget(), "nothing is left of it");
        due.is(1, x.seen(1, 1), "again from one");
    }

    private static void canBe() {
        due.promise(32, "canBe");
        WallsLeft x = new WallsLeft();
        due.is(0, x.canBe(), "nobody");
        x.builder(30, 1);
        x.builder(30, 2);
        x.builder(40, 2);
        x.builder(50, 3);
        due.is(15, x.canBe(), "nothing was seen");
        x.seen(0, 0);
        due.is(15, x.canBe(), "in no year nobody lays");
        x.seen(3, 6);
        due.is(6, x.canBe(), "who lays two a year");
        x.die(1);
        due.is(4, x.canBe(), "alive ones");
        x.begin(2, 3);
        Due.force(x, "lays plot + 3; lays 0 if year > 2 or age > 42");
        due.is(5, x.canBe(), "asked of no plot");
        x.forget();
        x.seen(4, 6);
        Due.force(x, "lays 2; lays 0 if age > 42");
        due.is(4, x.canBe(), "older each year");
        Due.force(x, "lays 2; lays 0 if year > 2");
        due.is(13, x.canBe(), "later each year");
        x.seen(0, 1);
        due.is(0, x.canBe(), "it can't be");
        due.is(0, x.status(), "nothing is refused");
    }

    private static void look() {
        due.promise(33, "look");
        WallsLeft x = Due.with(30, 30, 40, 50);
        due.is(0, x.look(0), "all alike: at once");
        due.is(4, x.look(1), "all are left");
        Due.force(x, "lays 1; lays 2 if age = 42; lays 3 if age = 53");
        due.is(4, x.look(0), "the third, then the fourth differ");
        due.is(2, x.look(1), "two are alike still");
        Due.force(x, "lays 1; lays builder if year = 20");
        due.is(0, x.look(0), "20 years do not reach year 20");
        Due.force(x, "lays 1; lays builder if year = 19");
        due.is(20, x.look(0), "the twentieth year");
        due.is(1, x.look(1), "each alone");
        x.seen(20, 20);
        due.is(0, x.look(0), "one alone can be it");
        due.is(1, x.look(1), "one alone");
        due.is(-1, x.look(2), "what 2");
        due.is(-1, x.look(-1), "what -1");
        x.seen(1, 200);
        due.is(-1, x.look(0), "it can be none");
        due.is(-1, x.look(1), "it can be none");
    }

    private static void few() {
        due.promise(34, "few");
        WallsLeft x = new WallsLeft();
        due.is(WHOLE, x.few(1, 0), "no courses");
        due.is(WHOLE * 9 / 10, x.few(1, 1), "one slips in one of ten");
        due.is(WHOLE, x.few(2, 1), "one at most");
        due.is(WHOLE * 972 / 1000, x.few(2, 3), "729 + 243");
        x.terms(1, 0);
        due.is(WHOLE, x.few(1, 99), "none slips");
        x.terms(1, 10);
        due.is(0, x.few(20, 20), "all slip");
        due.is(WHOLE, x.few(20, 19), "all slip");
        x.terms(1, 5);
        long[] row = new long[101];
        row[0] = WHOLE;
        for (int i = 0; i < 99; i++) {
            for (int j = 100; j > 0; j--) {
                row[j] = row[j] / 2 + row[j - 1] / 2;
            }
            row[0] /= 2;
        }
        long sum = 0;
        for (int j = 0; j < 20; j++) {
            sum += row[j];
        }
        due.is(sum, x.few(20, 99), "by halves, each cut");
        due.is(-1, x.few(0, 5), "k 0");
        due.is(-1, x.few(21, 5), "k 21");
        due.is(-1, x.few(1, -1), "n -1");
        due.is(-1, x.few(1, 100), "n 100");
        due.is(-1, x.few(LEAST, MOST), "far off");
    }

    private static void compare() {
        due.promise(35, "compare");
        WallsLeft x = Due.with(30, 40);
        Due.law(x, "dies 5 + plot");
        Due.law(x, "lays 3");
        x.begin(1, 8);
        due.is(4, x.compare(0, 0), "by a law that is not in force");
        due.is(13, x.compare(0, 1), "on the plot on which he is");
        due.is(30, x.compare(1, 0), "by a law that does not tell");
        x.force(0);
        due.is(30, x.compare(-1, 0), "by none");
        due.is(30, x.compare(1, 0), "in place of that in force");
        due.is(0, x.count(13), "which stays in force");
        due.is(-1, x.compare(2, 0), "no such law");
        due.is(-1, x.compare(-2, 0), "no such law");
        due.is(-1, x.compare(0, 2), "no such builder");
        due.is(-1, x.compare(0, -1), "no such builder");
    }

    private static void centuries() {
        due.promise(36, "centuries");
        WallsLeft x = new WallsLeft();
        due.is(-3, x.centuries(0, 1), "there are no builders");
        int[][] wrong = {{-1, 1}, {1_000_001, 1}, {0, 0}, {0, 61}, {LEAST, 1}, {0, MOST}};
        for (int[] w : wrong) {
            due.is(-1, x.centuries(w[0], w[1]), "centuries " + w[0] + ", " + w[1]);
        }
        due.is(-1, x.drawn(0, 0), "none was drawn");
        x.builder(30, 3);
        x.builder(31, 1);
        x.pass();
        Due.force(x, "dies 0");
        // From seed 0 the first builder draws 345 of 1,000, then his plot; the second's draws are the next two.
        long s = 12345;
        long first = (s * 1103 + 12345) % 1_000_003;
        long second = (first * 1103 + 12345) % 1_000_003;
        long third = (second * 1103 + 12345) % 1_000_003;
        due.is(0, x.centuries(0, 1), "none is left");
        due.so(first % 16 != third % 16, "the two begin different plots here");
        due.is(3, x.drawn((int) (first % 16), 0), "the first's plot");
        due.is(1, x.drawn((int) (third % 16), 0), "the second's plot");
        due.is(1, x.count(14), "on paper alone");
        due.is(1, x.count(6), "what can be undone stays");
        Due.force(x, "dies 345");
        x.centuries(0, 1);
        due.is(1, x.drawn(0, 2), "345 is not below 345");
        Due.force(x, "dies 346");
        x.centuries(0, 1);
        due.is(0, x.drawn(0, 2), "345 is below 346");
        x.begin(0, 5);
        x.begin(1, 6);
        Due.force(x, "dies 1000");
        due.is(2, x.centuries(1_000_000, 60), "both leave their plots");
        due.is(0, x.count(2), "on paper alone");
        x.die(0);
        x.die(1);
        due.is(2, x.centuries(0, 60), "the dead are builders, too");
        due.is(0, x.status(), "not refused");
        WallsLeft late = Due.with(30);
        Due.force(late, "dies 0; dies 1000 if year > 998; lays 0");
        late.terms(0, 997);
        late.begin(0, 3);
        due.is(0, late.centuries(0, 60), "nothing from 999 on");
        due.is(1, late.drawn(0, 2), "he lives");
        Due.force(late, "dies 0; dies 1000 if year = 998; lays 0");
        due.is(1, late.centuries(0, 60), "998 is drawn");
        due.is(0, late.centuries(0, 1), "in the second year, not in the first");
    }

    private static void drawn() {
        due.promise(37, "drawn");
        WallsLeft x = Due.with(30, 40);
        x.begin(0, 3);
        x.begin(1, 4);
        Due.force(x, "dies 0; dies 1000 if builder = 1; lays 2");
        due.is(1, x.centuries(17, 1), "one is left");
        due.is(2, x.drawn(3, 0), "courses");
        due.is(0, x.drawn(3, 1), "not left");
        due.is(0, x.drawn(4, 0), "no courses");
        due.is(1, x.drawn(4, 1), "left");
        due.is(1, x.drawn(0, 2), "alive");
        due.is(0, x.drawn(1, 2), "dead");
        x.builder(50, 1);
        x.image(0);
        x.pass();
        x.centuries(17, 0);
        x.back(0);
        due.is(-1, x.drawn(2, 2), "not among those there were then");
        due.is(2, x.drawn(3, 0), "refused centuries, years, images leave it");
        due.is(-1, x.drawn(16, 0), "no such plot");
        due.is(-1, x.drawn(-1, 1), "no such plot");
        due.is(-1, x.drawn(6, 2), "no such builder");
        due.is(-1, x.drawn(-1, 2), "no such builder");
        due.is(-1, x.drawn(0, 3), "what 3");
        due.is(-1, x.drawn(0, -1), "what -1");
        x.centuries(17, 2);
        due.is(4, x.drawn(3, 0), "the latest");
    }

    private static void imageAndBack() {
        due.promise(38, "image");
        WallsLeft x = Due.with(30, 40);
        due.is(-1, x.image(2), "no such image");
        due.is(-1, x.image(-1), "no such image");
        due.is(-2, x.back(0), "not kept");
        due.is(-1, x.back(2), "a number that can't be");
        due.is(-1, x.back(-1), "a number that can't be");
        x.terms(1, 4);
        x.terms(2, 5);
        Due.force(x, "dies 7");
        x.seen(2, 2);
        Due.wall(x, 0, 4, 3);
        x.die(1);
        due.is(0, x.image(1), "kept");
        due.is(5, x.count(6), "what can be undone stays");
        due.promise(39, "back");
        x.builder(50, 1);
        x.terms(0, 100);
        x.terms(1, 0);
        x.terms(2, 0);
        Due.law(x, "dies 8");
        x.force(1);
        x.seen(3, 3);
        x.begin(2, 9);
        x.pass();
        x.die(0);
        Due.orders(x, "lay");
        x.feed(0, 0, 0, 0, 0);
        int refused = x.count(12);
        due.is(0, x.back(1), "back");
        int[] counts = {2, 1, 0, 0, 1, 1, 0, 20, 2, 0, 0, 0, refused, 0, 0, 4, 5};
        for (int what = 0; what < counts.length; what++) {
            due.is(what == 8 ? 3 + 1 : what == 9 ? 1 : counts[what], x.count(what), "count " + what);
        }
        due.is(3, x.fault(), "the fault stays");
        due.is(3, x.at(4, 0), "courses");
        due.is(0, x.of(0, 3) - 4, "on");
        due.is(7, x.of(0, 4), "the law");
        due.is(-3, x.undo(), "nothing can be undone");
        Due.law(x, "dies 9");
        due.is(9, x.compare(1, 0), "another law of that number");
        x.image(0);
        x.back(1);
        due.is(1, x.count(5), "images stay");
        x.back(0);
        due.is(9, x.compare(1, 0), "laws are kept");
        x.forget();
        x.image(1);
        x.seen(0, 0);
        x.back(1);
        due.is(0, x.count(4), "an image can be kept anew");
        WallsLeft y = Due.with(30);
        y.image(0);
        Due.force(y, "dies 1; lays 2 if age > 20");
        y.seen(1, 2);
        y.image(1);
        y.back(0);
        Due.force(y, "lays 3; dies 4");
        y.seen(1, 3);
        y.back(1);
        due.is(1, y.compare(0, 0), "the law of that number as it was then");
        due.is(2, y.of(0, 5), "the law in force as it was then");
        due.is(1, y.canBe(), "what was seen then");
    }

    private static void count() {
        due.promise(40, "count");
        WallsLeft x = Due.with(30, 40, 50);
        Due.wall(x, 0, 15, 9);
        Due.wall(x, 0, 0, 9);
        Due.wall(x, 0, 1, 4);
        Due.wall(x, 1, 14, 0);
        x.die(0);
        x.die(1);
        due.is(3, x.count(0), "builders");
        due.is(1, x.count(1), "alive");
        due.is(1 << 1 | 1 << 14, x.count(2), "left");
        due.is(1 << 0 | 1 << 15, x.count(3), "done");
        due.is(16, x.count(6), "undoable");
        x.builder(0, 0);
        x.terms(9, 9);
        x.begin(0, 99);
        x.lay(9);
        x.die(9);
        x.force(9);
        x.lay(0);
        x.die(0);
        x.undo();
        for (int i = 0; i < 7; i++) {
            x.seen(1, 1);
        }
        x.row();
        x.law();
        x.orders();
        // These answer NONE and are not refused.
        x.of(9, 9);
        x.at(99, 0);
        x.can(9, 9);
        x.end(999);
        x.chance(9, 9);
        x.stair(9);
        x.compare(9, 9);
        due.is(3, x.count(8), "-1");
        due.is(3, x.count(9), "-2");
        due.is(2, x.count(10), "-3");
        due.is(1, x.count(11), "-5");
        due.is(3, x.count(12), "-6");
        for (int what : new int[] {-1, 17, LEAST, MOST}) {
            due.is(-1, x.count(what), "what " + what);
        }
    }

    private static void status() {
        due.promise(41, "status");
        WallsLeft x = new WallsLeft();
        String[] names = {"builder", "terms", "row", "law", "orders", "force", "begin", "lay", "die", "undo", "seen", "centuries", "image", "back"};
        int[] refusals = {x.builder(1, 1), x.terms(9, 9), x.row(), x.law(), x.orders(), x.force(9), x.begin(0, 0), x.lay(0), x.die(0), x.undo(),
            x.seen(-1, 0), x.centuries(0, 1), x.image(9), x.back(1)};
        int[] why = {-1, -1, -6, -6, -6, -2, -2, -2, -2, -3, -1, -3, -1, -2};
        for (int i = 0; i < why.length; i++) {
            due.is(why[i], refusals[i], names[i]);
        }
        due.is(-2, x.status(), "the latest");
        x.of(0, 0);
        x.end(1);
        x.plan(-1, -1);
        x.forget();
        x.canBe();
        due.is(-2, x.status(), "other calls leave it");
        due.is(0, x.seen(1, 1) - 1, "seen");
        due.is(0, x.status(), "not refused");
        x.begin(0, 99);
        due.is(-1, x.status(), "refused");
        x.force(-1);
        due.is(0, x.status(), "NONE was told by force(), nothing refused");
        x.terms(0, 999);
        x.pass();
        due.is(-3, x.status(), "refused");
        x.image(0);
        due.is(0, x.status(), "not refused");
        Due.orders(x, "die 0");
        due.is(-3, x.status(), "refused");
        x.back(0);
        due.is(0, x.status(), "not refused");
        Due.law(x, "dies");
        due.is(-6, x.status(), "refused");
        Due.law(x, "dies 1");
        due.is(0, x.status(), "not refused");
    }
}
