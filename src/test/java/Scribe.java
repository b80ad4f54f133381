/** Writes texts by the grammar, and some that are nearly right; its own draws, so that all runs are alike. */
final class Scribe {
    private long state;

    Scribe(long seed) {
        state = seed * 2_862_933_555_777_941_757L + 3_037_000_493L;
    }

    /** A number 0 .. m - 1. */
    int draw(int m) {
        state = state * 6_364_136_223_846_793_005L + 1_442_695_040_888_963_407L;
        return (int) ((state >>> 33) % m);
    }

    boolean once(int in) {
        return draw(in) == 0;
    }

    String pick(String... some) {
        return some[draw(some.length)];
    }

    String law() {
        StringBuilder b = new StringBuilder();
        int clauses = once(12) ? 9 + draw(6) : 1 + draw(4);
        for (int i = 0; i < clauses; i++) {
            b.append(i == 0 ? "" : pick(";", " ; ", "; "));
            String kind = pick("dies", "lays", "worth", "bars", "dies", "lays");
            b.append(kind);
            boolean small = clauses > 8;
            if (!kind.equals("bars")) {
                b.append(' ').append(small ? part(false, 9) : sum(false, 0));
            }
            if (!small && !once(3) || kind.equals("bars") && !once(6)) {
                b.append(" if ").append(test(false, 0));
            }
        }
        return marred(b.toString());
    }

    String orders() {
        StringBuilder b = new StringBuilder();
        int clauses = once(12) ? 9 + draw(6) : 1 + draw(4);
        for (int i = 0; i < clauses; i++) {
            b.append(i == 0 ? "" : pick(";", " ; "));
            String kind = pick("begin", "lay", "die", "pass", "pass", "begin", "lay");
            b.append(kind).append(' ');
            if (!kind.equals("pass")) {
                b.append(once(4) ? sum(true, 0) : Integer.toString(draw(5)));
            }
            if (kind.equals("begin")) {
                b.append(" at ").append(once(4) ? sum(true, 0) : Integer.toString(draw(16)));
            }
            if (once(3)) {
                b.append(" times ").append(once(10) ? draw(25) : 1 + draw(3));
            }
            if (once(3)) {
                b.append(" if ").append(test(true, 0));
            }
        }
        return marred(b.toString());
    }

    private String marred(String text) {
        if (!once(5)) {
            return text;
        }
        int at = draw(text.length() + 1);
        switch (draw(4)) {
            case 0:
                return text.substring(0, at);
            case 1:
                return text.substring(0, at) + pick(" if ", "(", "]", "[", ")", " 7 ", ";", "A", "\u00e9", "*", " not ", " or ", "1001", " times 0", "  ") + text.substring(at);
            case 2:
                return text.substring(0, at) + text.substring(Math.min(text.length(), at + 1 + draw(3)));
            default:
                return pick("   ", "", text + " ", " " + text, text + ";", text + "; ");
        }
    }

    private String test(boolean orders, int deep) {
        String one = plain(orders, deep);
        int more = once(2) ? 0 : 1 + draw(2);
        for (int i = 0; i < more; i++) {
            one += pick(" or ", " and ") + plain(orders, deep);
        }
        return one;
    }

    private String plain(boolean orders, int deep) {
        if (once(6)) {
            return pick("not ", "not not ", "not not not ") + plain(orders, deep);
        }
        if (deep < 9 && once(4)) {
            return "(" + test(orders, deep + 1 + draw(2)) + ")";
        }
        return sum(orders, deep + 1) + pick(" < ", ">", " = ") + sum(orders, deep + 1);
    }

    private String sum(boolean orders, int deep) {
        String one = term(orders, deep);
        while (once(3)) {
            one += pick("+", " - ", "-") + term(orders, deep);
        }
        return one;
    }

    private String term(boolean orders, int deep) {
        String one = part(orders, deep);
        while (once(4)) {
            one += pick("*", " / ", "%", " * ") + part(orders, deep);
        }
        return one;
    }

    private String part(boolean orders, int deep) {
        if (deep < 9 && once(6)) {
            return "[" + sum(orders, deep + 1) + "]";
        }
        if (once(2)) {
            return Integer.toString(once(3) ? draw(1003) : draw(20));
        }
        if (!orders) {
            return pick("builder", "age", "pace", "plot", "courses", "left", "year", "mood");
        }
        String word = pick("year", "done", "latest", "left", "free", "courses", "age");
        if (word.equals("courses")) {
            return word + " " + (once(30) ? draw(20) : draw(16));
        }
        return word.equals("age") ? word + " " + (once(30) ? draw(9) : draw(6)) : word;
    }

    /** Brackets up to, at and beyond the deepest, and parts up to and beyond the last. */
    String edge(boolean orders) {
        StringBuilder b = new StringBuilder(orders ? "pass if " : "bars if ");
        if (once(2)) {
            int round = draw(7);
            int square = draw(11 - round);
            b.append("(".repeat(round)).append("[".repeat(square)).append("1").append("]".repeat(square)).append("=1").append(")".repeat(round));
        } else {
            int parts = 46 + draw(6);
            b.append("1");
            for (int i = 1; i < parts; i++) {
                b.append(pick("+1", "+year", "-year"));
            }
            b.append("=0");
        }
        return b.toString();
    }
}
