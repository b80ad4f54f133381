import java.util.ArrayDeque;
import java.util.ArrayList;
import java.util.Arrays;
import java.util.Deque;
import java.util.List;

/** The document told once more, with all of the Java library and no thought of room: what WallsLeft is held against. */
final class Model {
    static final long WHOLE = 1_000_000_000_000L;

    static final class Broken extends Exception { }

    static final class CannotGoOn extends Exception {
        final int place;

        CannotGoOn(int place) {
            this.place = place;
        }
    }

    interface Words {
        int tell(String word, int number);
    }

    interface Sum {
        long reckon(Words words) throws Broken;
    }

    interface Test {
        boolean ask(Words words) throws Broken;
    }

    record Clause(String kind, Sum first, Sum second, int times, Test test) { }

    record Token(String text, int place) {
        boolean isNumber() {
            return !text.isEmpty() && Character.isDigit(text.charAt(0));
        }
    }

    /** Reads one text; a fault is thrown with its place. */
    static final class Grammar {
        private final List<Token> tokens = new ArrayList<>();
        private final boolean orders;
        private int next = 0;
        private int parts = 0;
        private int open = 0;

        Grammar(int[] tape, boolean orders) {
            this.orders = orders;
            int i = 0;
            while (i < tape.length) {
                if (tape[i] == 32) {
                    i++;
                    continue;
                }
                int from = i;
                StringBuilder b = new StringBuilder();
                b.append((char) tape[i++]);
                boolean letter = b.charAt(0) >= 'a' && b.charAt(0) <= 'z';
                boolean digit = b.charAt(0) >= '0' && b.charAt(0) <= '9';
                while (i < tape.length && (letter && tape[i] >= 'a' && tape[i] <= 'z' || digit && tape[i] >= '0' && tape[i] <= '9')) {
                    b.append((char) tape[i++]);
                }
                tokens.add(new Token(b.toString(), from));
            }
            tokens.add(new Token("", tape.length));
        }

        List<Clause> all() throws CannotGoOn {
            List<Clause> clauses = new ArrayList<>();
            clauses.add(clause());
            while (!token().text.isEmpty()) {
                need(";");
                if (clauses.size() == 12) {
                    throw fault();
                }
                clauses.add(clause());
            }
            return clauses;
        }

        private Token token() {
            return tokens.get(next);
        }

        private CannotGoOn fault() {
            return new CannotGoOn(token().place);
        }

        private boolean have(String text) {
            if (!token().text.equals(text)) {
                return false;
            }
            next++;
            return true;
        }

        private void need(String text) throws CannotGoOn {
            if (!have(text)) {
                throw fault();
            }
        }

        private int number(int least, int most) throws CannotGoOn {
            Token t = token();
            if (!t.isNumber()) {
                throw fault();
            }
            java.math.BigInteger n = new java.math.BigInteger(t.text);
            if (n.compareTo(java.math.BigInteger.valueOf(most)) > 0 || n.compareTo(java.math.BigInteger.valueOf(least)) < 0) {
                throw fault();
            }
            next++;
            return n.intValue();
        }

        private Clause clause() throws CannotGoOn {
            String kind = token().text;
            Sum first = null;
            Sum second = null;
            int times = 1;
            if (orders) {
                if (!List.of("begin", "lay", "die", "pass").contains(kind)) {
                    throw fault();
                }
                next++;
                if (!kind.equals("pass")) {
                    first = sum();
                }
                if (kind.equals("begin")) {
                    need("at");
                    second = sum();
                }
                if (have("times")) {
                    times = number(1, 20);
                }
            } else {
                if (!List.of("dies", "lays", "worth", "bars").contains(kind)) {
                    throw fault();
                }
                next++;
                if (!kind.equals("bars")) {
                    first = sum();
                }
            }
            Test test = have("if") ? test() : null;
            return new Clause(kind, first, second, times, test);
        }

        private Test test() throws CannotGoOn {
            Test left = both();
            while (have("or")) {
                Test a = left;
                Test b = both();
                left = w -> a.ask(w) || b.ask(w);
            }
            return left;
        }

        private Test both() throws CannotGoOn {
            Test left = plain();
            while (have("and")) {
                Test a = left;
                Test b = plain();
                left = w -> a.ask(w) && b.ask(w);
            }
            return left;
        }

        private void bracket() throws CannotGoOn {
            if (open == 8) {
                throw fault();
            }
            open++;
            next++;
        }

        private Test plain() throws CannotGoOn {
            if (have("not")) {
                Test inner = plain();
                return w -> !inner.ask(w);
            }
            if (token().text.equals("(")) {
                bracket();
                Test inner = test();
                need(")");
                open--;
                return inner;
            }
            Sum a = sum();
            String sign = token().text;
            if (!List.of("<", ">", "=").contains(sign)) {
                throw fault();
            }
            next++;
            Sum b = sum();
            return w -> {
                long x = a.reckon(w);
                long y = b.reckon(w);
                return sign.equals("<") ? x < y : sign.equals(">") ? x > y : x == y;
            };
        }

        private Sum sum() throws CannotGoOn {
            Sum left = term();
            while (List.of("+", "-").contains(token().text)) {
                boolean plus = tokens.get(next++).text.equals("+");
                Sum a = left;
                Sum b = term();
                left = w -> held(plus ? a.reckon(w) + b.reckon(w) : a.reckon(w) - b.reckon(w));
            }
            return left;
        }

        private Sum term() throws CannotGoOn {
            Sum left = part();
            while (List.of("*", "/", "%").contains(token().text)) {
                String sign = tokens.get(next++).text;
                Sum a = left;
                Sum b = part();
                left = w -> {
                    long x = a.reckon(w);
                    long y = b.reckon(w);
                    if (sign.equals("*")) {
                        return held(x * y);
                    }
                    if (y == 0) {
                        throw new Broken();
                    }
                    return held(sign.equals("/") ? x / y : x % y);
                };
            }
            return left;
        }

        private static long held(long value) throws Broken {
            if (Math.abs(value) > 1_000_000_000L) {
                throw new Broken();
            }
            return value;
        }

        private Sum part() throws CannotGoOn {
            if (token().text.equals("[")) {
                bracket();
                Sum inner = sum();
                need("]");
                open--;
                return inner;
            }
            if (token().isNumber()) {
                if (parts == 50) {
                    throw fault();
                }
                int n = number(0, 1000);
                parts++;
                return w -> n;
            }
            String word = token().text;
            List<String> words = orders
                ? List.of("year", "done", "latest", "left", "free", "courses", "age")
                : List.of("builder", "age", "pace", "plot", "courses", "left", "year", "mood");
            if (!words.contains(word) || parts == 50) {
                throw fault();
            }
            parts++;
            next++;
            int n = !orders ? 0 : word.equals("courses") ? number(0, 15) : word.equals("age") ? number(0, 5) : 0;
            return w -> w.tell(word, n);
        }
    }

    static final class Man {
        int age;
        int pace;
        boolean alive = true;
        int plot = -1;

        Man copy() {
            Man m = new Man();
            m.age = age;
            m.pace = pace;
            m.alive = alive;
            m.plot = plot;
            return m;
        }
    }

    static final class Town {
        int[] courses = new int[16];
        boolean[] left = new boolean[16];
        List<Man> men = new ArrayList<>();
        int[] terms = {0, 1, 0};
        List<int[]> seen = new ArrayList<>();
        List<List<Clause>> laws = new ArrayList<>();
        int force = -1;

        Town copy() {
            Town t = new Town();
            t.courses = courses.clone();
            t.left = left.clone();
            for (Man m : men) {
                t.men.add(m.copy());
            }
            t.terms = terms.clone();
            t.seen.addAll(seen);
            t.laws.addAll(laws);
            t.force = force;
            return t;
        }

        int on(int plot) {
            for (int i = 0; i < men.size(); i++) {
                if (men.get(i).plot == plot) {
                    return i;
                }
            }
            return -1;
        }

        List<Clause> forced() {
            return force == -1 ? List.of() : laws.get(force);
        }
    }

    record Done(int kind, Town ahead) { }

    Town town = new Town();
    final Town[] images = new Town[2];
    final Deque<Done> undoable = new ArrayDeque<>();
    int[] tape = new int[0];
    int fault = -1;
    int bubbles = 0;
    int stopped = -1;
    int status = 0;
    final int[] refused = new int[7];
    Town drawn = null;

    private int told(int answer) {
        status = Math.min(answer, 0);
        if (answer < 0) {
            refused[-answer]++;
        }
        return answer;
    }

    private boolean man(int b) {
        return b >= 0 && b < town.men.size();
    }

    private static boolean plot(int p) {
        return p >= 0 && p < 16;
    }

    // ---- laws

    /** What is asked of one builder of an age (NONE: of none) and a plot with courses (NONE: none) in a year. */
    private static Words asked(Town t, int b, int age, int plot, int courses, int year) {
        return (word, n) -> switch (word) {
            case "builder" -> b;
            case "age" -> b < 0 ? -1 : age;
            case "pace" -> b < 0 ? -1 : t.men.get(b).pace;
            case "plot" -> plot;
            case "courses" -> plot < 0 ? -1 : courses;
            case "left" -> plot < 0 ? -1 : t.left[plot] ? 1 : 0;
            case "year" -> year;
            case "mood" -> t.terms[2];
            default -> throw new IllegalStateException(word);
        };
    }

    private static Long lastThatHolds(List<Clause> law, String kind, Words words) {
        Long last = null;
        for (Clause c : law) {
            try {
                if (c.kind.equals(kind) && (c.test == null || c.test.ask(words))) {
                    last = c.first == null ? 1L : c.first.reckon(words);
                }
            } catch (Broken e) {
                continue;
            }
        }
        return last;
    }

    private static int law(List<Clause> law, String kind, Words words, int without, int most) {
        Long last = lastThatHolds(law, kind, words);
        return last == null ? without : (int) Math.max(0, Math.min(most, last));
    }

    private static int dies(Town t, List<Clause> law, int b, int age, int plot, int courses, int year) {
        return law(law, "dies", asked(t, b, age, plot, courses, year), age, 1000);
    }

    private static int lays(Town t, int b, int age, int plot, int courses, int year) {
        return law(t.forced(), "lays", asked(t, b, age, plot, courses, year), t.men.get(b).pace, 9);
    }

    private static int worth(Town t, int plot) {
        return law(t.forced(), "worth", asked(t, -1, -1, plot, t.courses[plot], t.terms[0]), t.courses[plot], 99);
    }

    private static boolean barred(Town t, int b, int plot) {
        return lastThatHolds(t.forced(), "bars", asked(t, b, t.men.get(b).age, plot, t.courses[plot], t.terms[0])) != null;
    }

    private static int diesNow(Town t, List<Clause> law, int b) {
        Man m = t.men.get(b);
        return dies(t, law, b, m.age, m.plot, m.plot < 0 ? -1 : t.courses[m.plot], t.terms[0]);
    }

    private static boolean mayBegin(Town t, int b, int plot) {
        Man m = t.men.get(b);
        return m.alive && m.plot == -1 && t.courses[plot] == 0 && !t.left[plot] && t.on(plot) == -1 && !barred(t, b, plot);
    }

    private static int bury(Town t, int b) {
        Man m = t.men.get(b);
        m.alive = false;
        if (m.plot == -1) {
            return 0;
        }
        t.left[m.plot] = true;
        int c = t.courses[m.plot];
        m.plot = -1;
        return c;
    }

    private static int pass(Town t) {
        int came = 0;
        for (int b = 0; b < t.men.size(); b++) {
            Man m = t.men.get(b);
            if (m.plot == -1) {
                continue;
            }
            int l = Math.min(lays(t, b, m.age, m.plot, t.courses[m.plot], t.terms[0]), 9 - t.courses[m.plot]);
            t.courses[m.plot] += l;
            came += l;
            if (t.courses[m.plot] == 9) {
                m.plot = -1;
            }
        }
        for (Man m : t.men) {
            if (m.alive && m.age < 99) {
                m.age++;
            }
        }
        t.terms[0]++;
        return came;
    }

    private static int free(Town t) {
        int n = 0;
        for (Man m : t.men) {
            n += m.alive && m.plot == -1 ? 1 : 0;
        }
        return n;
    }

    private static int lefts(Town t) {
        int bits = 0;
        for (int p = 0; p < 16; p++) {
            bits |= t.left[p] ? 1 << p : 0;
        }
        return bits;
    }

    // ---- the face

    int builder(int age, int pace) {
        if (age < 16 || age > 99 || pace < 1 || pace > 3) {
            return told(-1);
        }
        if (town.men.size() == 6) {
            return told(-5);
        }
        Man m = new Man();
        m.age = age;
        m.pace = pace;
        town.men.add(m);
        undoable.clear();
        return told(town.men.size() - 1);
    }

    int of(int b, int what) {
        if (!man(b) || what < 0 || what > 5) {
            return -1;
        }
        Man m = town.men.get(b);
        int courses = m.plot < 0 ? -1 : town.courses[m.plot];
        return switch (what) {
            case 0 -> m.age;
            case 1 -> m.pace;
            case 2 -> m.alive ? 1 : 0;
            case 3 -> m.plot;
            case 4 -> diesNow(town, town.forced(), b);
            default -> lays(town, b, m.age, m.plot, courses, town.terms[0]);
        };
    }

    int at(int p, int what) {
        if (!plot(p) || what < 0 || what > 3) {
            return -1;
        }
        return switch (what) {
            case 0 -> town.courses[p];
            case 1 -> town.left[p] ? 1 : 0;
            case 2 -> town.on(p);
            default -> worth(town, p);
        };
    }

    int can(int b, int p) {
        return !man(b) || !plot(p) ? -1 : mayBegin(town, b, p) ? 1 : 0;
    }

    int terms(int what, int value) {
        int[] most = {999, 10, 9};
        if (what < 0 || what > 2 || value < 0 || value > most[what]) {
            return told(-1);
        }
        int was = town.terms[what];
        town.terms[what] = value;
        undoable.clear();
        return told(was);
    }

    int feed(int a, int b, int c, int d, int e) {
        int[] five = {a, b, c, d, e};
        if (tape.length + 20 > 400) {
            return -1;
        }
        int[] longer = Arrays.copyOf(tape, tape.length + 20);
        for (int i = 0; i < 20; i++) {
            longer[tape.length + i] = java.nio.ByteBuffer.allocate(4).putInt(five[i / 4]).get(i % 4) & 255;
        }
        tape = longer;
        return tape.length;
    }

    int end(int n) {
        if (n < 0 || n > tape.length) {
            return -1;
        }
        tape = Arrays.copyOf(tape, n);
        return n;
    }

    int row() {
        int[] bytes = tape;
        tape = new int[0];
        if (bytes.length == 0) {
            return told(-6);
        }
        int came = 0;
        int burst = 0;
        for (int i = 0; i < bytes.length; i += 2) {
            if (i + 1 == bytes.length || town.men.size() == 6 || bytes[i] < 16 || bytes[i] > 99 || bytes[i + 1] < 1 || bytes[i + 1] > 3) {
                burst++;
                continue;
            }
            Man m = new Man();
            m.age = bytes[i];
            m.pace = bytes[i + 1];
            town.men.add(m);
            came++;
        }
        bubbles = burst;
        undoable.clear();
        return told(came);
    }

    private List<Clause> read(boolean orders) {
        int[] bytes = tape;
        tape = new int[0];
        try {
            List<Clause> clauses = new Grammar(bytes, orders).all();
            fault = -1;
            return clauses;
        } catch (CannotGoOn e) {
            fault = e.place;
            return null;
        }
    }

    int law() {
        if (town.laws.size() == 6) {
            tape = new int[0];
            return told(-5);
        }
        List<Clause> clauses = read(false);
        if (clauses == null) {
            return told(-6);
        }
        town.laws.add(clauses);
        return told(town.laws.size() - 1);
    }

    int orders() {
        stopped = -1;
        List<Clause> clauses = read(true);
        if (clauses == null) {
            return told(-6);
        }
        Town ahead = town.copy();
        Deque<Done> undoableAhead = new ArrayDeque<>(undoable);
        int[] done = {0, -1};
        for (int i = 0; i < clauses.size(); i++) {
            for (int j = 0; j < clauses.get(i).times; j++) {
                if (!runOnce(clauses.get(i), done)) {
                    stopped = i;
                    town = ahead;
                    undoable.clear();
                    undoable.addAll(undoableAhead);
                    return told(-3);
                }
            }
        }
        return told(done[0]);
    }

    private boolean runOnce(Clause c, int[] done) {
        Words words = (word, n) -> switch (word) {
            case "year" -> town.terms[0];
            case "done" -> done[0];
            case "latest" -> done[1];
            case "left" -> Integer.bitCount(lefts(town));
            case "free" -> free(town);
            case "courses" -> town.courses[n];
            case "age" -> man(n) ? town.men.get(n).age : -1;
            default -> throw new IllegalStateException(word);
        };
        try {
            if (c.test != null && !c.test.ask(words)) {
                return true;
            }
        } catch (Broken e) {
            return true;
        }
        int told;
        try {
            int first = c.first == null ? 0 : (int) c.first.reckon(words);
            int second = c.second == null ? 0 : (int) c.second.reckon(words);
            told = switch (c.kind) {
                case "begin" -> doBegin(first, second);
                case "lay" -> doLay(first);
                case "die" -> doDie(first);
                default -> doPass();
            };
        } catch (Broken e) {
            return false;
        }
        if (told < 0) {
            return false;
        }
        done[0]++;
        if (c.kind.equals("pass")) {
            done[1] = told;
        }
        return true;
    }

    private void keep(int kind) {
        undoable.addLast(new Done(kind, town.copy()));
        if (undoable.size() > 16) {
            undoable.removeFirst();
        }
    }

    private int doBegin(int b, int p) {
        if (!plot(p)) {
            return -1;
        }
        if (!man(b)) {
            return -2;
        }
        if (!mayBegin(town, b, p)) {
            return -3;
        }
        keep(0);
        town.men.get(b).plot = p;
        return free(town);
    }

    private int doLay(int b) {
        if (!man(b)) {
            return -2;
        }
        int p = town.men.get(b).plot;
        if (p == -1) {
            return -3;
        }
        keep(1);
        if (++town.courses[p] == 9) {
            town.men.get(b).plot = -1;
        }
        return town.courses[p];
    }

    private int doDie(int b) {
        if (!man(b)) {
            return -2;
        }
        if (!town.men.get(b).alive) {
            return -3;
        }
        keep(2);
        return bury(town, b);
    }

    private int doPass() {
        if (town.terms[0] == 999) {
            return -3;
        }
        keep(3);
        return pass(town);
    }

    int fault() {
        return fault;
    }

    int bubbles() {
        return bubbles;
    }

    int stopped() {
        return stopped;
    }

    int force(int law) {
        if (law != -1 && (law < 0 || law >= town.laws.size())) {
            return told(-2);
        }
        int was = town.force;
        town.force = law;
        status = 0;
        return was;
    }

    int begin(int b, int p) {
        return told(doBegin(b, p));
    }

    int lay(int b) {
        return told(doLay(b));
    }

    int die(int b) {
        return told(doDie(b));
    }

    int pass() {
        return told(doPass());
    }

    int undo() {
        if (undoable.isEmpty()) {
            return told(-3);
        }
        Done d = undoable.removeLast();
        town.courses = d.ahead.courses;
        town.left = d.ahead.left;
        town.men = d.ahead.men;
        town.terms[0] = d.ahead.terms[0];
        return told(d.kind);
    }

    private static long cut(long parts, int thousandths) {
        return parts * (1000 - thousandths) / 1000;
    }

    private long[] wall(int b, int p) {
        long parts = WHOLE;
        int c = town.courses[p];
        for (int y = 0; y <= 99; y++) {
            if (c >= 9) {
                return new long[] {parts, y};
            }
            int age = Math.min(99, town.men.get(b).age + y);
            int year = town.terms[0] + y;
            int d = dies(town, town.forced(), b, age, p, c, year);
            int l = lays(town, b, age, p, c, year);
            parts = cut(parts, d);
            c = Math.min(9, c + l);
        }
        return new long[] {0, -1};
    }

    long chance(int b, int p) {
        if (!man(b) || !plot(p)) {
            return -1;
        }
        return town.men.get(b).alive ? wall(b, p)[0] : 0;
    }

    int years(int b, int p) {
        return !man(b) || !plot(p) || !town.men.get(b).alive ? -1 : (int) wall(b, p)[1];
    }

    long lives(int b, int k) {
        if (!man(b) || k < 0 || k > 99) {
            return -1;
        }
        Man m = town.men.get(b);
        if (!m.alive) {
            return 0;
        }
        long parts = WHOLE;
        for (int y = 0; y < k; y++) {
            int c = m.plot < 0 ? -1 : town.courses[m.plot];
            parts = cut(parts, dies(town, town.forced(), b, Math.min(99, m.age + y), m.plot, c, town.terms[0] + y));
        }
        return parts;
    }

    long plan(int plots, int b) {
        if (plots < 0 || plots > 65535 || Integer.bitCount(plots) > 6 || b != -1 && !man(b)) {
            return -1;
        }
        long[][] chances = new long[town.men.size()][16];
        for (int i = 0; i < town.men.size(); i++) {
            for (int p = 0; p < 16; p++) {
                boolean may = (plots >> p & 1) == 1 && mayBegin(town, i, p);
                chances[i][p] = may ? wall(i, p)[0] : -1;
            }
        }
        int[] best = new int[town.men.size()];
        long[] most = {-1};
        tryAll(chances, 0, 0, new int[town.men.size()], 0, most, best);
        return b == -1 ? most[0] : best[b];
    }

    /** Tries go from the first to the last in the document's order, so only a better one takes the place. */
    private static void tryAll(long[][] chances, int b, int used, int[] now, long sum, long[] most, int[] best) {
        if (b == chances.length) {
            if (sum > most[0]) {
                most[0] = sum;
                System.arraycopy(now, 0, best, 0, now.length);
            }
            return;
        }
        for (int p = 0; p < 16; p++) {
            if (chances[b][p] >= 0 && (used >> p & 1) == 0) {
                now[b] = p;
                tryAll(chances, b + 1, used | 1 << p, now, sum + chances[b][p], most, best);
            }
        }
        now[b] = -1;
        tryAll(chances, b + 1, used, now, sum, most, best);
    }

    long bridge(int one, int other, int n) {
        if (!man(one) || !man(other) || one == other || n < 1 || n > 40) {
            return -1;
        }
        Man a = town.men.get(one);
        Man b = town.men.get(other);
        // 0 both, 1 the first alone, 2 the second alone
        long[][] now = new long[3][n];
        if (a.alive || b.alive) {
            now[a.alive && b.alive ? 0 : a.alive ? 1 : 2][0] = WHOLE;
        }
        long done = 0;
        for (int y = 0; y < 99; y++) {
            int ageA = Math.min(99, a.age + y);
            int ageB = Math.min(99, b.age + y);
            int year = town.terms[0] + y;
            int d = dies(town, town.forced(), one, ageA, -1, -1, year);
            int e = dies(town, town.forced(), other, ageB, -1, -1, year);
            int l = lays(town, one, ageA, -1, -1, year);
            int m = lays(town, other, ageB, -1, -1, year);
            long[][] next = new long[3][n + 20];
            for (int c = 0; c < n; c++) {
                long p = now[0][c];
                long q = p * (1000 - d) / 1000;
                long r = q * (1000 - e) / 1000;
                next[0][c + l + m] += r;
                next[1][c + l] += q - r;
                next[2][c + m] += (p - q) * (1000 - e) / 1000;
                next[1][c + l] += now[1][c] * (1000 - d) / 1000;
                next[2][c + m] += now[2][c] * (1000 - e) / 1000;
            }
            for (int k = 0; k < 3; k++) {
                for (int c = n; c < n + 20; c++) {
                    done += next[k][c];
                }
                now[k] = Arrays.copyOf(next[k], n);
            }
        }
        return done;
    }

    int stair(int what) {
        if (what != 0 && what != 1) {
            return -1;
        }
        for (int size = 16; size > 0; size--) {
            for (int from = 0; from + size <= 16; from++) {
                boolean good = true;
                for (int p = from + 1; p < from + size; p++) {
                    good &= town.courses[p] - town.courses[p - 1] == 1;
                }
                if (good) {
                    return what == 0 ? size : from;
                }
            }
        }
        throw new IllegalStateException();
    }

    private boolean low(int p, int h) {
        return plot(p) && town.courses[p] < h;
    }

    int stretch(int h, int what) {
        if (h < 1 || h > 9 || what != 0 && what != 1) {
            return -1;
        }
        for (int size = 16; size > 0; size--) {
            for (int from = 0; from + size <= 16; from++) {
                boolean good = true;
                for (int p = from; p < from + size; p++) {
                    good &= low(p, h);
                }
                if (good) {
                    return what == 0 ? size : from;
                }
            }
        }
        return what == 0 ? 0 : -1;
    }

    int rooms(int h) {
        if (h < 1 || h > 9) {
            return -1;
        }
        int n = 0;
        for (int p = 0; p < 16; p++) {
            n += low(p, h) && !low(p + 1, h) ? 1 : 0;
        }
        return n;
    }

    int seat() {
        int best = -1;
        for (int p = 15; p >= 0; p--) {
            if (town.left[p] && (best == -1 || worth(town, p) >= worth(town, best))) {
                best = p;
            }
        }
        return best;
    }

    int seen(int y, int n) {
        if (y < 0 || y > 20 || n < 0 || n > 200) {
            return told(-1);
        }
        if (town.seen.size() == 6) {
            return told(-5);
        }
        town.seen.add(new int[] {y, n});
        return told(town.seen.size());
    }

    int forget() {
        int was = town.seen.size();
        town.seen.clear();
        return was;
    }

    private int laidIn(int b, int years) {
        int sum = 0;
        for (int y = 0; y < years; y++) {
            sum += lays(town, b, Math.min(99, town.men.get(b).age + y), -1, -1, town.terms[0] + y);
        }
        return sum;
    }

    int canBe() {
        int bits = 0;
        for (int b = 0; b < town.men.size(); b++) {
            boolean good = town.men.get(b).alive;
            for (int[] s : town.seen) {
                good &= laidIn(b, s[0]) == s[1];
            }
            bits |= good ? 1 << b : 0;
        }
        return bits;
    }

    int look(int what) {
        int bits = canBe();
        if (bits == 0 || what != 0 && what != 1) {
            return -1;
        }
        int bestYear = -1;
        int fewest = 7;
        for (int y = 0; y <= 20; y++) {
            java.util.Map<Integer, Integer> groups = new java.util.HashMap<>();
            for (int b = 0; b < town.men.size(); b++) {
                if ((bits >> b & 1) == 1) {
                    groups.merge(laidIn(b, y), 1, Integer::sum);
                }
            }
            int most = java.util.Collections.max(groups.values());
            if (most < fewest) {
                fewest = most;
                bestYear = y;
            }
        }
        return what == 0 ? bestYear : fewest;
    }

    long few(int k, int n) {
        if (k < 1 || k > 20 || n < 0 || n > 99) {
            return -1;
        }
        int slips = town.terms[1];
        long[] parts = new long[101];
        parts[0] = WHOLE;
        for (int i = 0; i < n; i++) {
            long[] next = new long[101];
            for (int j = 0; j < 100; j++) {
                next[j] += parts[j] * (10 - slips) / 10;
                next[j + 1] += parts[j] * slips / 10;
            }
            parts = next;
        }
        long sum = 0;
        for (int j = 0; j < k; j++) {
            sum += parts[j];
        }
        return sum;
    }

    int compare(int law, int b) {
        if (!man(b) || law < -1 || law >= town.laws.size()) {
            return -1;
        }
        return diesNow(town, law == -1 ? List.of() : town.laws.get(law), b);
    }

    private long s;

    private int draw(int m) {
        s = (s * 1103 + 12345) % 1_000_003;
        return (int) (s % m);
    }

    int centuries(int seed, int n) {
        if (seed < 0 || seed > 1_000_000 || n < 1 || n > 60) {
            return told(-1);
        }
        if (town.men.isEmpty()) {
            return told(-3);
        }
        Town t = town.copy();
        s = seed;
        for (int i = 0; i < n; i++) {
            if (t.terms[0] >= 999) {
                break;
            }
            for (int b = 0; b < t.men.size(); b++) {
                if (!t.men.get(b).alive) {
                    continue;
                }
                if (draw(1000) < diesNow(t, t.forced(), b)) {
                    bury(t, b);
                } else if (t.men.get(b).plot == -1) {
                    int p = draw(16);
                    if (mayBegin(t, b, p)) {
                        t.men.get(b).plot = p;
                    }
                }
            }
            pass(t);
        }
        drawn = t;
        return told(Integer.bitCount(lefts(t)));
    }

    int drawn(int k, int what) {
        if (drawn == null) {
            return -1;
        }
        if (what == 2) {
            return k < 0 || k >= drawn.men.size() ? -1 : drawn.men.get(k).alive ? 1 : 0;
        }
        if (!plot(k)) {
            return -1;
        }
        return what == 0 ? drawn.courses[k] : what == 1 ? drawn.left[k] ? 1 : 0 : -1;
    }

    int image(int k) {
        if (k != 0 && k != 1) {
            return told(-1);
        }
        images[k] = town.copy();
        return told(0);
    }

    int back(int k) {
        if (k != 0 && k != 1) {
            return told(-1);
        }
        if (images[k] == null) {
            return told(-2);
        }
        town = images[k].copy();
        undoable.clear();
        return told(0);
    }

    int count(int what) {
        int alive = 0;
        for (Man m : town.men) {
            alive += m.alive ? 1 : 0;
        }
        int done = 0;
        for (int p = 0; p < 16; p++) {
            done |= town.courses[p] == 9 ? 1 << p : 0;
        }
        int[] all = {town.men.size(), alive, lefts(town), done, town.seen.size(), town.laws.size(), undoable.size(), tape.length,
            refused[1], refused[2], refused[3], refused[5], refused[6], town.force, town.terms[0], town.terms[1], town.terms[2]};
        return what < 0 || what >= all.length ? -1 : all[what];
    }

    int status() {
        return status;
    }
}
