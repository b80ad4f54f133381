/** Terms II, the two languages: what is read, where the FAULT is, what comes of it; sentence by sentence. */
public final class TextsTest {
    private static final Due due = new Due("TextsTest");
    private static final String II = "Terms II";

    public static void main(String[] args) {
        tape();
        tokens();
        blanks();
        clauses();
        tests();
        plains();
        comparisons();
        sums();
        terms();
        numbers();
        squareBrackets();
        fiftyParts();
        eightBrackets();
        faults();
        faultAtTheEnd();
        beyondTheBound();
        dividedByNone();
        cutTowardsNone();
        shortCuts();
        brokenParts();
        due.end();
    }

    private static void tape() {
        due.says(II, "TEXTS are on a TAPE of at most 400 bytes");
        due.lawFault("dies 5" + " ".repeat(394), -1);
        due.lawFault("dies" + " ".repeat(396), 400);
        due.lawFault(" ".repeat(396) + "bars", -1);
        due.lawFault(" ".repeat(396) + "dies", 400);
        due.lawFault(" ".repeat(399) + "d", 399);
        due.ordersFault(" ".repeat(396) + "pass", -1);
    }

    private static void tokens() {
        due.says(II, "TOKENS: longest rows of letters a .. z");
        due.lawFault("diesage", 0);
        due.lawFault("dies agez", 5);
        due.lawFault("dies aage", 5);
        due.lawFault("dies ag", 5);
        due.lawFault("die 5", 0);
        due.lawFault("diess 5", 0);
        due.lawFault("barsif 1=1", 0);
        due.lawFault("dies 5 iff 1=1", 7);
        due.lawFault("dies zage", 5);
        due.lawFault("s 5", 0);
        due.lawFault("es 5", 0);
        due.lawFault("ies 5", 0);
        due.lawFault("ars", 0);
        due.ordersFault("ay 0", 0);
        due.says(II, "of digits");
        due.lawFault("dies5", -1);
        due.lawFault("dies 19", -1);
        due.lawFault("dies 90", -1);
        due.lawFault("dies 1 2", 7);
        due.lawFault("dies 1z", 6);
        due.lawFault("dies a1", 5);
        due.lawFault("dies5if7age", 8);
        due.lawFault("dies 5if 7<age", -1);
        due.says(II, "single other bytes");
        due.lawFault("bars;bars", -1);
        due.lawFault("Dies 5", 0);
        due.lawFault("dies `", 5);
        due.lawFault("dies {", 5);
        due.lawFault("dies 1{", 6);
        due.lawFault("dies 1`", 6);
        due.lawFault("dies 1/", 7);
        due.lawFault("dies 1:", 6);
        due.lawFault("dies \u00e9", 5);
        due.lawFault("dies \u00ff", 5);
        due.lawFault("dies \0", 5);
        due.lawFault("bars if 1 <= 2", 11);
        due.lawFault("bars if 1 == 2", 11);
    }

    private static void blanks() {
        due.says(II, "any blanks (32) between");
        due.lawFault("dies 5", -1);
        due.lawFault("  dies   5  ", -1);
        due.lawFault("dies [ 1 + 2 ] * 3", -1);
        due.lawFault("dies[1+2]*3if(age<5)or age>7", -1);
        due.lawFault("dies\t5", 4);
        due.lawFault("dies\n5", 4);
        due.lawFault("dies!5", 4);
        due.lawFault("dies \u001f", 5);
        due.lawFault("di es 5", 0);
        due.lawFault("dies 5 0", 7);
    }

    private static void clauses() {
        due.says(II, "CLAUSE {\";\" CLAUSE}");
        due.lawFault("dies 1; lays 1; worth 1; bars", -1);
        due.lawFault("dies 1;", 7);
        due.lawFault("dies 1; ", 8);
        due.lawFault("; dies 1", 0);
        due.lawFault("dies 1;;dies 2", 7);
        due.lawFault("dies 1 dies 2", 7);
        due.lawFault("dies 1, dies 2", 6);
        due.says(II, "12 at most (FAULT at the 13th's first TOKEN)");
        due.lawFault("bars" + ";bars".repeat(11), -1);
        due.lawFault("bars" + ";bars".repeat(12), 60);
        due.lawFault("bars" + ";bars".repeat(11) + ";  bars", 62);
        due.lawFault("bars" + ";bars".repeat(11) + ";", 60);
        due.lawFault("bars" + ";bars".repeat(11) + "; ?", 61);
        due.lawFault("bars" + ";bars".repeat(11) + " bars", 60);
        due.ordersFault("pass" + ";pass".repeat(11), -1);
        due.ordersFault("pass" + ";pass".repeat(12), 60);
        WallsLeft x = Due.with(50);
        due.is(12, Due.orders(x, "pass" + ";pass".repeat(11)), "all twelve are run");
        Due.force(x, "dies 1" + ";dies 2".repeat(10) + ";dies 12");
        due.is(12, x.of(0, 4), "the twelfth tells");
        Due.force(x, "dies 1" + ";lays 2".repeat(11));
        due.is(1, x.of(0, 4), "the first tells");
    }

    private static void tests() {
        due.says(II, "TEST: BOTH {\"or\" BOTH}");
        due.test("1 = 1 or 1 = 1 and 1 = 2", 1);
        due.test("1 = 2 and 1 = 1 or 1 = 1", 1);
        due.test("1 = 2 or 1 = 3 or 1 = 1", 1);
        due.test("1 = 2 or 1 = 3 or 1 = 4", 0);
        due.lawFault("bars if 1 = 1 or", 16);
        due.lawFault("bars if or 1 = 1", 8);
        due.says(II, "BOTH: PLAIN {\"and\" PLAIN}");
        due.test("1 = 1 and 2 = 2 and 3 = 4", 0);
        due.test("1 = 1 and 2 = 2 and 3 = 3", 1);
        due.test("1 = 2 and 2 = 2 and 3 = 3", 0);
        due.test("1 < 1 and 2 = 2", 0);
        due.test("1 > 1 and 2 = 2", 0);
        due.test("1 < 2 and 2 > 1", 1);
        due.lawFault("bars if plot = 1 and", 20);
        due.lawFault("bars if and 1 = 1", 8);
    }

    private static void plains() {
        due.says(II, "PLAIN: \"not\" PLAIN");
        due.test("not 2 = 3", 1);
        due.test("not not 2 = 3", 0);
        due.test("not not not 2 = 3", 1);
        due.test("not 1 = 1 or 1 = 1", 1);
        due.test("not 1 = 2 and 1 = 2", 0);
        due.test("not 1 = 1 and 1 = 1", 0);
        due.test("not 1 = 2 or 1 = 2", 1);
        due.test("not (not (1 = 1))", 1);
        due.test("not (not (1 = 2))", 0);
        due.lawFault("bars if not", 11);
        due.lawFault("bars if plot not = 1", 13);
        due.lawFault("bars if plot = not 1", 15);
        due.lawFault("bars if " + "not ".repeat(97) + "1=1", -1);
        due.lawFault("bars if " + "not ".repeat(98), 400);
        due.test("not ".repeat(90) + "1=1", 1);
        due.test("not ".repeat(91) + "1=1", 0);
        due.says(II, "\"(\" TEST \")\"");
        due.test("not (1 = 1 or 1 = 1)", 0);
        due.test("(1 = 1 or 1 = 1) and 1 = 2", 0);
        due.test("((1 = 1))", 1);
        due.lawFault("bars if (plot) = 1", 13);
        due.lawFault("bars if (plot = 1", 17);
        due.lawFault("bars if (plot = 1]", 17);
        due.lawFault("bars if ()", 9);
        due.lawFault("bars if plot = 1)", 16);
        due.lawFault("dies (1)", 5);
    }

    private static void comparisons() {
        due.says(II, "SUM (\"<\" | \">\" | \"=\") SUM");
        due.test("1 < 2", 1);
        due.test("2 < 2", 0);
        due.test("3 < 2", 0);
        due.test("3 > 2", 1);
        due.test("2 > 2", 0);
        due.test("1 > 2", 0);
        due.test("2 = 2", 1);
        due.test("2 = 3", 0);
        due.test("3 = 2", 0);
        due.lawFault("bars if plot", 12);
        due.lawFault("bars if plot =", 14);
        due.lawFault("bars if plot = 1 = 2", 17);
        due.lawFault("bars if = 1", 8);
        due.lawFault("dies 1 < 2", 7);
    }

    private static void sums() {
        due.says(II, "SUM: TERM {(\"+\" | \"-\") TERM}");
        due.sum("2 + 3 * 4", 14);
        due.sum("20 - 5 - 3", 12);
        due.sum("20 - 5 + 3", 18);
        due.lawFault("dies -1", 5);
        due.lawFault("dies + 1", 5);
        due.lawFault("dies 1 + + 2", 9);
        due.lawFault("dies 1 +", 8);
    }

    private static void terms() {
        due.says(II, "TERM: PART {(\"*\" | \"/\" | \"%\") PART}");
        due.sum("100 / 7 / 2", 7);
        due.sum("100 % 7 * 3", 6);
        due.sum("100 / 7 * 2", 28);
        due.sum("2 * 3 % 4", 2);
        due.lawFault("dies * 1", 5);
        due.lawFault("dies 1 *", 8);
        due.lawFault("dies 1 * - 1", 9);
    }

    private static void numbers() {
        due.says(II, "PART: NUMBER (to 1,000)");
        due.lawFault("dies 0", -1);
        due.lawFault("dies 1000", -1);
        due.lawFault("dies 1001", 5);
        due.lawFault("dies 0001000", -1);
        due.lawFault("dies 0001001", 5);
        due.lawFault("dies 10000", 5);
        due.lawFault("dies 99999999999999999999", 5);
        due.lawFault("dies 4294967297", 5);
        due.lawFault("dies 18446744073709551617", 5);
        due.sum("1000", 1000);
        due.sum("999", 999);
        due.sum("007", 7);
        due.ordersFault("lay 1001", 4);
        due.ordersFault("pass if year > 1001", 15);
        due.ordersFault("pass if year > 1000", -1);
    }

    private static void squareBrackets() {
        due.says(II, "\"[\" SUM \"]\"");
        due.sum("[2 + 3] * 4", 20);
        due.sum("20 - [5 - 3]", 18);
        due.lawFault("dies [1", 7);
        due.lawFault("dies [1)", 7);
        due.lawFault("dies []", 6);
        due.lawFault("dies 1]", 6);
        due.lawFault("dies [1 < 2]", 8);
        due.lawFault("bars if [plot] = 1", -1);
        due.lawFault("bars if [plot = 1]", 14);
    }

    private static void fiftyParts() {
        due.says(II, "50 PARTS that are NUMBERS and words (FAULT at the 51st)");
        due.lawFault("dies 1" + "+1".repeat(49), -1);
        due.lawFault("dies 1" + "+1".repeat(50), 105);
        due.lawFault("dies 1" + "+age".repeat(49), -1);
        due.lawFault("dies 1" + "+age".repeat(50), 5 + 1 + 4 * 49 + 1);
        due.lawFault("dies 1" + "+1".repeat(49) + "+", 5 + 1 + 2 * 49 + 1);
        due.lawFault("dies 1" + "+1".repeat(49) + "+?", 5 + 1 + 2 * 49 + 1);
        due.lawFault("dies 1" + "+1".repeat(49) + "+[1]", 5 + 1 + 2 * 49 + 2);
        due.lawFault("dies [1]" + "+[1]".repeat(49), -1);
        // Of the whole TEXT, not of a CLAUSE.
        due.lawFault("dies 1" + "+1".repeat(47) + "; dies age; dies 1", -1);
        due.lawFault("dies 1" + "+1".repeat(47) + "; dies age; dies 1; dies 7", 125);
        due.lawFault("dies 1" + "+1".repeat(48) + " if 1 = 1", 5 + 1 + 2 * 48 + 4 + 4);
        // What was read ahead of this TEXT does not count.
        WallsLeft x = Due.with(20);
        for (int i = 0; i < 3; i++) {
            due.is(i, Due.law(x, "dies 1" + "+1".repeat(49)), "fifty in each text");
        }
        x.force(2);
        due.is(50, x.of(0, 4), "all fifty count");
        due.sum("1+[1+".repeat(7) + "1" + "+1]".repeat(7), 22);
    }

    private static void eightBrackets() {
        due.says(II, "8 brackets of both kinds within one another (FAULT at the 9th) at most");
        due.lawFault("dies " + "[".repeat(8) + "1" + "]".repeat(8), -1);
        due.lawFault("dies " + "[".repeat(9) + "1" + "]".repeat(9), 13);
        due.lawFault("bars if " + "(".repeat(8) + "1=1" + ")".repeat(8), -1);
        due.lawFault("bars if " + "(".repeat(9) + "1=1" + ")".repeat(9), 16);
        due.lawFault("bars if " + "(".repeat(5) + "[[[1]]]=1" + ")".repeat(5), -1);
        due.lawFault("bars if " + "(".repeat(5) + "1=[[[1]]]" + ")".repeat(5), -1);
        due.lawFault("bars if " + "(".repeat(5) + "[[[[1]]]]=1" + ")".repeat(5), 16);
        due.lawFault("bars if " + "(".repeat(5) + "1=[[[[1]]]]" + ")".repeat(5), 18);
        due.lawFault("bars if " + "(".repeat(7) + "1=1 or [[1]]=1" + ")".repeat(7), 23);
        due.lawFault("bars if " + "(".repeat(7) + "1=1 and not ((1=1))" + ")".repeat(7), 28);
        due.lawFault("dies 1" + "+[1".repeat(8) + "]".repeat(8), -1);
        due.lawFault("dies 1" + "+[1".repeat(9) + "]".repeat(9), 6 + 3 * 8 + 1);
        due.lawFault("dies 1" + "*[1".repeat(8) + "]".repeat(8), -1);
        due.lawFault("dies 1" + "*[1".repeat(9) + "]".repeat(9), 6 + 3 * 8 + 1);
        due.lawFault("bars if 1=1" + " or (1=1".repeat(8) + ")".repeat(8), -1);
        due.lawFault("bars if 1=1" + " or (1=1".repeat(9) + ")".repeat(9), 11 + 8 * 8 + 4);
        due.lawFault("bars if 1=1" + " and (1=1".repeat(9) + ")".repeat(9), 11 + 9 * 8 + 5);
        due.lawFault("bars if " + "not (".repeat(9) + "1=1" + ")".repeat(9), 8 + 5 * 8 + 4);
        // Side by side there may be more.
        due.lawFault("dies [1]" + "+[1]".repeat(30), -1);
        due.lawFault("bars if (1=1)" + " or (1=1)".repeat(12), -1);
        due.lawFault("dies " + "[".repeat(8) + "1" + "]".repeat(8) + "+" + "[".repeat(8) + "1" + "]".repeat(8), -1);
        due.sum("[".repeat(8) + "6" + "]".repeat(8), 6);
        due.test("(".repeat(8) + "1=1" + ")".repeat(8), 1);
        due.ordersFault("lay " + "[".repeat(9) + "1" + "]".repeat(9), 12);
    }

    private static void faults() {
        due.says(II, "FAULT: the first TOKEN that can't go on there");
        due.lawFault("dies if age > 3", 5);
        due.lawFault("bars 1", 5);
        due.lawFault("pass", 0);
        due.lawFault("dies 1 times 2", 7);
        due.lawFault("dies 1 at 2", 7);
        due.lawFault("dies done", 5);
        due.lawFault("dies courses 1", 13);
        due.lawFault("dies 1 if age > 2 if age > 3", 18);
        due.lawFault("   ?", 3);
        due.lawFault("dies    ?  ", 8);
        due.lawFault("dies 1 ; lays ; worth", 14);
        due.ordersFault("dies 5", 0);
        due.ordersFault("pass 1", 5);
        due.ordersFault("begin at 0", 6);
        due.ordersFault("begin 0, 1", 7);
        due.ordersFault("lay 0 at 0", 6);
        due.ordersFault("pass if 1 = 1 times 2", 14);
        due.ordersFault("pass times 2 times 2", 13);
        due.ordersFault("pass if pace > 200", 8);
        due.ordersFault("pass if mood > 200", 8);
    }

    private static void faultAtTheEnd() {
        due.says(II, "(the end's: the TEXT's length)");
        due.lawFault("", 0);
        due.lawFault("    ", 4);
        due.lawFault("dies", 4);
        due.lawFault("dies   ", 7);
        due.lawFault("bars if", 7);
        due.lawFault("bars if  ", 9);
        due.ordersFault("", 0);
        due.ordersFault("   ", 3);
        due.ordersFault("begin 0", 7);
        due.ordersFault("begin 0 at", 10);
        due.ordersFault("lay", 3);
        due.ordersFault("die ", 4);
        due.ordersFault("pass times", 10);
        due.ordersFault("pass if age", 11);
        due.ordersFault("pass if courses  ", 17);
        // What stood behind the TEXT on a longer TAPE is not read.
        WallsLeft x = new WallsLeft();
        Due.law(x, "dies 50 + 50");
        due.is(-6, Due.law(x, "dies"), "what was behind it is gone");
        due.is(4, x.fault(), "the text's length");
        Due.tape(x, "dies 12345").end(7);
        due.is(1, x.law(), "what end() took off is gone");
        x.builder(20, 1);
        x.force(1);
        due.is(12, x.of(0, 4), "12");
        Due.tape(x, "dies 12345").end(5);
        due.is(-6, x.law(), "no number behind it");
        due.is(5, x.fault(), "the text's length");
        Due.tape(x, "dies age").end(7);
        due.is(-6, x.law(), "no word beyond it");
        due.is(5, x.fault(), "\"ag\" is none");
        Due.tape(x, "dies 5 ifage = 7").end(6);
        due.is(2, x.law(), "nothing behind it");
        // However many TEXTS were read, each has its own room.
        for (int i = 0; i < 10; i++) {
            due.is(0, Due.orders(x, "pass if 1" + "+1".repeat(48) + " = 1"), "orders of fifty parts");
        }
        for (int i = 3; i < 6; i++) {
            due.is(i, Due.law(x, "dies 1" + "+1".repeat(48) + "+ " + i), "laws of fifty parts");
        }
        for (int i = 3; i < 6; i++) {
            due.is(49 + i, x.compare(i, 0), "each sum to its end");
        }
    }

    private static void beyondTheBound() {
        due.says(II, "Beyond 1,000,000,000 either way ... BROKEN");
        due.sum("1000 * 1000 * 1000 / 1000 / 1000", 1000);
        due.sum("[1000 * 1000 * 1000 + 1] / 1000 / 1000", 77);
        due.sum("[1000 * 1000 * 1000 + 1] * 0", 77);
        due.sum("[1000 * 1000 * 1000 + 1] % 1000", 77);
        due.sum("0 - 1000 * 1000 * 1000 + 1000 * 1000 * 1000 + 4", 4);
        due.sum("0 - 1000 * 1000 * 1000 - 1 + 1000 * 1000 * 1000", 77);
        due.sum("[0 - 1000] * 1000 * 1000 / 1000 / 1000 + 1000 + 5", 5);
        due.sum("[0 - 1000] * 1000 * 1000 * 2", 77);
        due.sum("1000 * 1000 * 1000 * 1000 * 1000 * 1000 * 1000 * 0", 77);
        due.sum("1000 * 1000 * 1000 * 5 - 1000 * 1000 * 1000 * 5", 77);
        // 2,147,483,648 and 4,294,967,296 would wrap around to what is within the bound.
        due.sum("128 * 128 * 128 * 64 * 16 + 5", 77);
        due.sum("128 * 128 * 128 * 64 * 32 + 5", 77);
        due.sum("512 * 512 * 512 * 7 + 5", 1000);
        due.sum("512 * 512 * 512 * 8 + 5", 77);
        due.test("1000 * 1000 * 1000 = 1000 * 1000 * 1000", 1);
        due.broken("1000 * 1000 * 1000 + 1 > 0");
        due.broken("0 < 1000 * 1000 * 1000 + 1");
    }

    private static void dividedByNone() {
        due.says(II, "or divided by 0 ... a SUM, a TEST is BROKEN");
        due.sum("5 / 0", 77);
        due.sum("5 % 0", 77);
        due.sum("0 / 0", 77);
        due.sum("0 % 0", 77);
        due.sum("5 / [age - age]", 77);
        due.sum("5 % [age - age] * 0", 77);
        due.sum("0 / 5", 0);
        due.sum("0 % 5", 0);
        due.broken("1 / 0 = 1");
        due.broken("1 = 1 % 0");
        due.broken("1 / 0 < 1");
        due.broken("1 > 1 / 0");
    }

    private static void cutTowardsNone() {
        due.says(II, "(/ cut towards 0, % what is left then)");
        due.sum("7 / 2", 3);
        due.sum("100 + [3 - 10] / 2", 97);
        due.sum("100 + 7 / [0 - 2]", 97);
        due.sum("100 + [0 - 7] / [0 - 2]", 103);
        due.sum("7 % 2", 1);
        due.sum("100 + [3 - 10] % 4", 97);
        due.sum("100 + 7 % [1 - 4]", 101);
        due.sum("100 + [0 - 7] % [0 - 4]", 97);
        due.sum("100 + [0 - 8] % 4", 100);
        due.sum("100 + [0 - 1] / 2", 100);
    }

    private static void shortCuts() {
        due.says(II, "(\"or\", \"and\" ask what stands behind only if it can still matter");
        due.test("1 = 1 or 1 / 0 = 1", 1);
        due.test("1 = 1 or 2 = 2 or 1 / 0 = 1", 1);
        due.test("1 = 2 or 2 = 2 or 1 / 0 = 1", 1);
        due.test("not (1 = 2 and 1 / 0 = 1)", 1);
        due.test("not (1 = 2 and 1 = 1 and 1 / 0 = 1)", 1);
        due.test("1 = 2 and 1 / 0 = 1 or 1 = 1", 1);
        due.test("(1 = 1 or 1 / 0 = 1) and 1 = 1", 1);
        due.test("1 = 1 or 1 = 1 and 1 / 0 = 1", 1);
        due.test("1 = 2 and 1 = 1 and 1 / 0 = 1 or 2 = 2", 1);
        due.test("not (1 = 1 or 1 / 0 = 1) or 1 = 1", 1);
        due.test("1 = 1 or (1 = 1 and (1 / 0 = 1 or 1 % 0 = 1))", 1);
        due.test("1 = 2 and not 1 / 0 = 1 or 1 = 1", 1);
    }

    private static void brokenParts() {
        due.says(II, "a part that was asked and is BROKEN makes all of it BROKEN");
        due.broken("1 / 0 = 1 or 1 = 1");
        due.broken("1 = 2 or 1 / 0 = 1 or 1 = 1");
        due.broken("1 = 1 and 1 / 0 = 1");
        due.broken("1 / 0 = 1 and 1 = 2");
        due.broken("1 = 1 and 1 / 0 = 1 or 1 = 1");
        due.broken("(1 = 1 and 1 / 0 = 1) or 1 = 1");
        due.broken("not (1 / 0 = 1) or 1 = 1");
        due.broken("1 = 2 or 1 / 0 = 1");
        // What was BROKEN leaves nothing behind.
        WallsLeft x = Due.with(77);
        Due.force(x, "dies 1 + [2 + [3 + [4 + [5 + 1 / 0]]]]");
        Due.law(x, "dies 1 + [2 + [3 + [4 + [5 + [6 + 7]]]]]");
        for (int i = 0; i < 60; i++) {
            due.is(77, x.of(0, 4), "broken, time " + i);
            due.is(0, Due.orders(x, "pass if 1 + [2 + [3 + [4 + 1 / 0]]] > 0"), "broken, time " + i);
        }
        due.is(28, x.compare(1, 0), "another law");
        due.is(1, Due.orders(x, "pass if 1 + [2 + [3 + [4 + 5]]] = 15"), "other orders");
        due.test("not (1 = 1 and 1 / 0 = 1)", 0);
        due.test("not 1 / 0 = 1", 0);
    }
}
