/** A borough in which walls are left off where a man died building. */
public final class WallsLeft {
    public static final int NONE = -1;

    private static final int BAD_NUMBER = -1;
    private static final int MISSING = -2;
    private static final int IMPOSSIBLE = -3;
    private static final int NO_ROOM = -5;
    private static final int BAD_TEXT = -6;

    private static final int PLOTS = 16;
    private static final int FULL = 9;
    private static final int BUILDERS = 6;
    private static final int YOUNGEST = 16;
    private static final int OLDEST = 99;
    private static final int SLOWEST = 1;
    private static final int FASTEST = 3;

    private static final int TERMS = 3;
    private static final int YEAR = 0;
    private static final int SLIPS = 1;
    private static final int MOOD = 2;
    private static final int[] TERM_MOST = {999, 10, 9};
    private static final int LAST_YEAR = 999;
    private static final int USUAL_SLIPS = 1;

    private static final int SEEN = 6;
    private static final int SEEN_YEARS = 20;
    private static final int SEEN_COURSES = 200;
    private static final int IMAGES = 2;
    private static final int UNDONE_KEPT = 16;

    private static final long WHOLE = 1_000_000_000_000L;
    private static final int THOUSAND = 1000;
    private static final int TEN = 10;
    private static final int PAPER_YEARS = 99;
    private static final int LONGEST_BRIDGE = 40;
    private static final int MOST_SLIPS = 20;
    private static final int MOST_SLIPPING = 99;
    private static final int PLANNED = 6;
    private static final int PLANNED_SETS = 64;

    private static final int MOST_SEED = 1_000_000;
    private static final int MOST_CENTURIES = 60;
    private static final int DRAW_TIMES = 1103;
    private static final int DRAW_MORE = 12_345;
    private static final int DRAW_MODULO = 1_000_003;

    private static final int TAPE = 400;
    private static final int FED_BYTES = 20;
    private static final int BYTE = 255;
    private static final int LAWS = 6;
    private static final int CLAUSES = 12;
    private static final int PARTS = 50;
    private static final int BRACKETS = 8;
    private static final int MOST_NUMBER = 1000;
    private static final int MOST_TIMES = 20;
    private static final int BOUND = 1_000_000_000;

    private static final String LAW_KINDS = "dies lays worth bars";
    private static final int DIES = 0;
    private static final int LAYS = 1;
    private static final int WORTH = 2;
    private static final int BARS = 3;
    private static final int MOST_WORTH = 99;

    private static final String LAW_WORDS = "builder age pace plot courses left year mood";
    private static final int LAW_WORD_COUNT = 8;
    private static final int OF_BUILDER = 0;
    private static final int OF_AGE = 1;
    private static final int OF_PACE = 2;
    private static final int OF_PLOT = 3;
    private static final int OF_COURSES = 4;
    private static final int OF_LEFT = 5;
    private static final int OF_YEAR = 6;
    private static final int OF_MOOD = 7;

    // These are also what undo() tells.
    private static final String ORDER_KINDS = "begin lay die pass";
    private static final int BEGIN = 0;
    private static final int LAY = 1;
    private static final int DIE = 2;
    private static final int PASS = 3;

    // "courses 7" and "age 2" are words of their own behind the five plain ones, so that one row holds all.
    private static final String ORDER_WORDS = "year done latest left free courses age";
    private static final int IN_YEAR = 0;
    private static final int IN_DONE = 1;
    private static final int IN_LATEST = 2;
    private static final int IN_LEFT = 3;
    private static final int IN_FREE = 4;
    private static final int IN_COURSES = 5;
    private static final int IN_AGE = 6;
    private static final int FIRST_COURSES = 5;
    private static final int FIRST_AGE = 21;
    private static final int ORDER_WORD_COUNT = 27;

    // A step of a read text is one number: what is done, and above which number, word or place.
    private static final int STEP_BITS = 10;
    private static final int STEP_MASK = 1023;
    private static final int STOP = 0;
    private static final int NUMBER = 1;
    private static final int WORD = 2;
    private static final int NOT = 3;
    private static final int OR = 4;
    private static final int AND = 5;
    private static final int FIRST_SUM_SIGN = 6;
    private static final int PLUS = 6;
    private static final int MINUS = 7;
    private static final int FIRST_TERM_SIGN = 8;
    private static final int BY = 8;
    private static final int OVER = 9;
    private static final int REST = 10;
    private static final int FIRST_COMPARISON = 11;
    private static final int LESS = 11;
    private static final int MORE = 12;
    private static final int SAME = 13;
    private static final String SUM_SIGNS = "+ -";
    private static final String TERM_SIGNS = "* / %";
    private static final String COMPARISONS = "< > =";
    private static final long BROKEN = 1_000_000_001L;

    private final Borough now = new Borough();
    private final Borough[] images = new Borough[IMAGES];
    private final Reader reader = new Reader();
    private final Court court = new Court(now);
    private final Works works = new Works(now.street, court);
    private final Paper paper = new Paper(now, court);
    private final Planner planner = new Planner(now.street, court, paper);
    private final Centuries drawing = new Centuries(now, court);
    private final int[] refusals = new int[-BAD_TEXT + 1];
    private int latestRefusal;
    private int latestBubbles;
    private int latestStop = NONE;

    public WallsLeft() {
        for (int i = 0; i < images.length; i++) {
            images[i] = new Borough();
        }
    }

    public int builder(int age, int pace) {
        int told = now.street.join(age, pace);
        if (told >= 0) {
            works.history.clear();
        }
        return answer(told);
    }

    public int of(int builder, int what) {
        Street street = now.street;
        if (!street.has(builder)) {
            return NONE;
        }
        switch (what) {
            case 0:
                return get(street.ages, builder);
            case 1:
                return get(street.paces, builder);
            case 2:
                return get(street.alive, builder);
            case 3:
                return get(street.plots, builder);
            case 4:
                court.hear(street, builder, get(street.plots, builder));
                return court.thousandths(now.lawInForce());
            case 5:
                court.hear(street, builder, get(street.plots, builder));
                return court.coursesAYear();
            default:
                return NONE;
        }
    }

    public int at(int plot, int what) {
        Street street = now.street;
        if (!within(plot, 0, PLOTS - 1)) {
            return NONE;
        }
        switch (what) {
            case 0:
                return get(street.courses, plot);
            case 1:
                return get(street.left, plot);
            case 2:
                return street.workerOn(plot);
            case 3:
                court.hear(street, NONE, plot);
                return court.worthOfPlot();
            default:
                return NONE;
        }
    }

    public int can(int builder, int plot) {
        if (!now.street.has(builder) || !within(plot, 0, PLOTS - 1)) {
            return NONE;
        }
        return court.mayStart(now.street, builder, plot) ? 1 : 0;
    }

    public int terms(int what, int value) {
        if (!within(what, 0, TERMS - 1) || !within(value, 0, get(TERM_MOST, what))) {
            return answer(BAD_NUMBER);
        }
        int was = get(now.street.terms, what);
        put(now.street.terms, what, value);
        works.history.clear();
        return answer(was);
    }

    public int feed(int a, int b, int c, int d, int e) {
        if (reader.length > TAPE - FED_BYTES) {
            return NONE;
        }
        reader.append(a);
        reader.append(b);
        reader.append(c);
        reader.append(d);
        reader.append(e);
        return reader.length;
    }

    public int end(int n) {
        if (!within(n, 0, reader.length)) {
            return NONE;
        }
        reader.length = n;
        return n;
    }

    public int row() {
        int length = reader.length;
        reader.length = 0;
        if (length == 0) {
            return answer(BAD_TEXT);
        }
        int came = 0;
        int rowBubbles = 0;
        for (int i = 0; i < length; i += 2) {
            boolean whole = i + 1 < length;
            if (whole && now.street.join(get(reader.tape, i), get(reader.tape, i + 1)) >= 0) {
                came++;
            } else {
                rowBubbles++;
            }
        }
        latestBubbles = rowBubbles;
        works.history.clear();
        return answer(came);
    }

    public int bubbles() {
        return latestBubbles;
    }

    public int law() {
        if (now.lawCount >= LAWS) {
            reader.length = 0;
            return answer(NO_ROOM);
        }
        return answer(reader.read(false) ? now.enact(reader.text) : BAD_TEXT);
    }

    public int orders() {
        if (!reader.read(true)) {
            latestStop = NONE;
            return answer(BAD_TEXT);
        }
        int told = works.runAll(reader.text);
        latestStop = works.stoppedAt;
        return answer(told);
    }

    public int fault() {
        return reader.fault;
    }

    public int stopped() {
        return latestStop;
    }

    public int force(int law) {
        if (law != NONE && !within(law, 0, now.lawCount - 1)) {
            return answer(MISSING);
        }
        int was = now.inForce;
        now.inForce = law;
        latestRefusal = 0;
        return was;
    }

    public int begin(int builder, int plot) {
        return answer(works.startOn(builder, plot));
    }

    public int lay(int builder) {
        return answer(works.addCourse(builder));
    }

    public int die(int builder) {
        return answer(works.bury(builder));
    }

    public int pass() {
        return answer(works.passYear());
    }

    public int undo() {
        return answer(works.takeBack());
    }

    public long chance(int builder, int plot) {
        if (!now.street.has(builder) || !within(plot, 0, PLOTS - 1)) {
            return NONE;
        }
        if (get(now.street.alive, builder) == 0) {
            return 0;
        }
        paper.build(builder, plot);
        return paper.stayed;
    }

    public int years(int builder, int plot) {
        if (!now.street.has(builder) || !within(plot, 0, PLOTS - 1)) {
            return NONE;
        }
        return get(now.street.alive, builder) == 0 ? NONE : paper.build(builder, plot);
    }

    public long lives(int builder, int k) {
        if (!now.street.has(builder) || !within(k, 0, PAPER_YEARS)) {
            return NONE;
        }
        return get(now.street.alive, builder) == 0 ? 0 : paper.survive(builder, k);
    }

    public long plan(int plots, int builder) {
        boolean all = builder == NONE;
        if (!all && !now.street.has(builder)) {
            return NONE;
        }
        if (!within(plots, 0, (1 << PLOTS) - 1) || Integer.bitCount(plots) > PLANNED) {
            return NONE;
        }
        planner.make(plots);
        return all ? planner.together() : planner.plotOf(builder);
    }

    public long bridge(int one, int other, int n) {
        Street street = now.street;
        if (one == other || !street.has(one) || !street.has(other) || !within(n, 1, LONGEST_BRIDGE)) {
            return NONE;
        }
        return paper.meet(one, other, n);
    }

    public int stair(int what) {
        return within(what, 0, 1) ? now.street.longestStair(what == 0) : NONE;
    }

    public int stretch(int h, int what) {
        if (!within(h, 1, FULL) || !within(what, 0, 1)) {
            return NONE;
        }
        return now.street.longestBelow(h, what == 0);
    }

    public int rooms(int h) {
        return within(h, 1, FULL) ? now.street.rowsBelow(h) : NONE;
    }

    public int seat() {
        int best = NONE;
        int most = NONE;
        for (int plot = 0; plot < PLOTS; plot++) {
            if (get(now.street.left, plot) == 1) {
                court.hear(now.street, NONE, plot);
                int worth = court.worthOfPlot();
                if (worth > most) {
                    most = worth;
                    best = plot;
                }
            }
        }
        return best;
    }

    public int seen(int y, int n) {
        return answer(now.see(y, n));
    }

    public int forget() {
        int was = now.seenCount;
        now.seenCount = 0;
        return was;
    }

    public int canBe() {
        return paper.possible();
    }

    public int look(int what) {
        return within(what, 0, 1) ? paper.bestLook(what == 0) : NONE;
    }

    public long few(int k, int n) {
        if (!within(k, 1, MOST_SLIPS) || !within(n, 0, MOST_SLIPPING)) {
            return NONE;
        }
        return paper.fewer(k, n);
    }

    public int compare(int law, int builder) {
        if (!now.street.has(builder) || law != NONE && !within(law, 0, now.lawCount - 1)) {
            return NONE;
        }
        court.hear(now.street, builder, get(now.street.plots, builder));
        return court.thousandths(now.lawAt(law));
    }

    public int centuries(int seed, int n) {
        if (!within(seed, 0, MOST_SEED) || !within(n, 1, MOST_CENTURIES)) {
            return answer(BAD_NUMBER);
        }
        if (now.street.builders == 0) {
            return answer(IMPOSSIBLE);
        }
        drawing.draw(now.street, seed, n);
        return answer(Integer.bitCount(drawing.street.leftSet()));
    }

    public int drawn(int k, int what) {
        Street street = drawing.street;
        if (!drawing.drawn) {
            return NONE;
        }
        switch (what) {
            case 0:
                return get(street.courses, k);
            case 1:
                return get(street.left, k);
            case 2:
                return street.has(k) ? get(street.alive, k) : NONE;
            default:
                return NONE;
        }
    }

    public int image(int k) {
        Borough image = imageAt(k);
        if (image == null) {
            return answer(BAD_NUMBER);
        }
        image.copyFrom(now);
        image.kept = true;
        return answer(0);
    }

    public int back(int k) {
        Borough image = imageAt(k);
        if (image == null) {
            return answer(BAD_NUMBER);
        }
        if (!image.kept) {
            return answer(MISSING);
        }
        now.copyFrom(image);
        works.history.clear();
        return answer(0);
    }

    public int count(int what) {
        Street street = now.street;
        switch (what) {
            case 0:
                return street.builders;
            case 1:
                return street.aliveOnes();
            case 2:
                return street.leftSet();
            case 3:
                return street.doneSet();
            case 4:
                return now.seenCount;
            case 5:
                return now.lawCount;
            case 6:
                return works.history.size;
            case 7:
                return reader.length;
            case 8:
                return get(refusals, -BAD_NUMBER);
            case 9:
                return get(refusals, -MISSING);
            case 10:
                return get(refusals, -IMPOSSIBLE);
            case 11:
                return get(refusals, -NO_ROOM);
            case 12:
                return get(refusals, -BAD_TEXT);
            case 13:
                return now.inForce;
            case 14:
                return get(street.terms, YEAR);
            case 15:
                return get(street.terms, SLIPS);
            case 16:
                return get(street.terms, MOOD);
            default:
                return NONE;
        }
    }

    public int status() {
        return latestRefusal;
    }

    /** What is told to the caller; below 0 it is why the call is refused, which is counted here alone. */
    private int answer(int told) {
        latestRefusal = Math.min(told, 0);
        if (told < 0) {
            put(refusals, -told, get(refusals, -told) + 1);
        }
        return told;
    }

    private Borough imageAt(int k) {
        return k >= 0 && k < images.length ? images[k] : null;
    }

    private static boolean within(int value, int least, int most) {
        return value >= least && value <= most;
    }

    private static int nearest(int value, int least, int most) {
        return Math.max(least, Math.min(most, value));
    }

    // Rows are read and written through these, so that no index is used unseen.
    private static int get(int[] row, int i) {
        return row != null && i >= 0 && i < row.length ? row[i] : NONE;
    }

    private static void put(int[] row, int i, int value) {
        if (row != null && i >= 0 && i < row.length) {
            row[i] = value;
        }
    }

    private static long getLong(long[] row, int i) {
        return row != null && i >= 0 && i < row.length ? row[i] : NONE;
    }

    private static void putLong(long[] row, int i, long value) {
        if (row != null && i >= 0 && i < row.length) {
            row[i] = value;
        }
    }

    private static void copyRow(int[] from, int[] to) {
        if (from != null && to != null) {
            System.arraycopy(from, 0, to, 0, Math.min(from.length, to.length));
        }
    }

    /** Of so many parts those that stay, if so many thousandths are lost. */
    private static long staying(long parts, int lost) {
        return parts * (THOUSAND - lost) / THOUSAND;
    }

    /** Plots, builders and terms: all that an undo takes back or a century changes on paper. */
    private static final class Street {
        final int[] courses = new int[PLOTS];
        final int[] left = new int[PLOTS];
        final int[] ages = new int[BUILDERS];
        final int[] paces = new int[BUILDERS];
        final int[] alive = new int[BUILDERS];
        final int[] plots = new int[BUILDERS];
        final int[] terms = {0, USUAL_SLIPS, 0};
        int builders;

        void copyFrom(Street other) {
            copyRow(other.courses, courses);
            copyRow(other.left, left);
            copyRow(other.ages, ages);
            copyRow(other.paces, paces);
            copyRow(other.alive, alive);
            copyRow(other.plots, plots);
            copyRow(other.terms, terms);
            builders = other.builders;
        }

        boolean has(int builder) {
            return builder >= 0 && builder < builders;
        }

        boolean isFree(int builder) {
            return has(builder) && get(alive, builder) == 1 && get(plots, builder) == NONE;
        }

        int join(int age, int pace) {
            if (!within(age, YOUNGEST, OLDEST) || !within(pace, SLOWEST, FASTEST)) {
                return BAD_NUMBER;
            }
            if (builders >= BUILDERS) {
                return NO_ROOM;
            }
            int builder = builders;
            put(ages, builder, age);
            put(paces, builder, pace);
            put(alive, builder, 1);
            put(plots, builder, NONE);
            builders = builder + 1;
            return builder;
        }

        int workerOn(int plot) {
            for (int builder = 0; builder < builders; builder++) {
                if (get(plots, builder) == plot) {
                    return builder;
                }
            }
            return NONE;
        }

        /** How many of so many courses come on the plot on which he is, which nine of them end. */
        int raise(int builder, int more) {
            int plot = get(plots, builder);
            if (plot == NONE) {
                return 0;
            }
            int was = get(courses, plot);
            int is = Math.min(FULL, was + more);
            put(courses, plot, is);
            if (is == FULL) {
                put(plots, builder, NONE);
            }
            return is - was;
        }

        /** He is dead: the courses of what he leaves. */
        int lose(int builder) {
            int plot = get(plots, builder);
            put(alive, builder, 0);
            put(plots, builder, NONE);
            put(left, plot, 1);
            return plot == NONE ? 0 : get(courses, plot);
        }

        void grow() {
            for (int builder = 0; builder < builders; builder++) {
                if (get(alive, builder) == 1) {
                    put(ages, builder, Math.min(OLDEST, get(ages, builder) + 1));
                }
            }
            put(terms, YEAR, get(terms, YEAR) + 1);
        }

        int freeOnes() {
            int free = 0;
            for (int builder = 0; builder < builders; builder++) {
                free += isFree(builder) ? 1 : 0;
            }
            return free;
        }

        int aliveOnes() {
            int living = 0;
            for (int builder = 0; builder < builders; builder++) {
                living += get(alive, builder);
            }
            return living;
        }

        int leftSet() {
            int set = 0;
            for (int plot = 0; plot < left.length; plot++) {
                set |= left[plot] << plot;
            }
            return set;
        }

        int doneSet() {
            int set = 0;
            for (int plot = 0; plot < courses.length; plot++) {
                set |= courses[plot] == FULL ? 1 << plot : 0;
            }
            return set;
        }

        int longestStair(boolean length) {
            int longest = 0;
            int first = NONE;
            int from = 0;
            for (int plot = 0; plot < PLOTS; plot++) {
                boolean risen = plot > 0 && get(courses, plot) == get(courses, plot - 1) + 1;
                from = risen ? from : plot;
                if (plot - from + 1 > longest) {
                    longest = plot - from + 1;
                    first = from;
                }
            }
            return length ? longest : first;
        }

        int longestBelow(int height, boolean length) {
            int longest = 0;
            int first = NONE;
            int here = 0;
            for (int plot = 0; plot < courses.length; plot++) {
                here = courses[plot] < height ? here + 1 : 0;
                if (here > longest) {
                    longest = here;
                    first = plot - here + 1;
                }
            }
            return length ? longest : first;
        }

        int rowsBelow(int height) {
            int rows = 0;
            boolean inside = false;
            for (int plot = 0; plot < courses.length; plot++) {
                boolean low = courses[plot] < height;
                rows += low && !inside ? 1 : 0;
                inside = low;
            }
            return rows;
        }
    }

    /** All that an image keeps. */
    private static final class Borough {
        final Street street = new Street();
        final Text[] laws = new Text[LAWS];
        final int[] seenYears = new int[SEEN];
        final int[] seenCourses = new int[SEEN];
        int lawCount;
        int inForce = NONE;
        int seenCount;
        boolean kept;

        Borough() {
            for (int i = 0; i < laws.length; i++) {
                laws[i] = new Text();
            }
        }

        void copyFrom(Borough other) {
            street.copyFrom(other.street);
            lawCount = other.lawCount;
            for (int i = 0; i < lawCount; i++) {
                copyLaw(other.lawAt(i), lawAt(i));
            }
            inForce = other.inForce;
            copyRow(other.seenYears, seenYears);
            copyRow(other.seenCourses, seenCourses);
            seenCount = other.seenCount;
        }

        /** A law; null, where there is none. */
        Text lawAt(int law) {
            return law >= 0 && law < lawCount && law < laws.length ? laws[law] : null;
        }

        Text lawInForce() {
            return lawAt(inForce);
        }

        int enact(Text text) {
            if (lawCount >= LAWS) {
                return NO_ROOM;
            }
            int law = lawCount;
            lawCount = law + 1;
            copyLaw(text, lawAt(law));
            return law;
        }

        int see(int years, int courses) {
            if (!within(years, 0, SEEN_YEARS) || !within(courses, 0, SEEN_COURSES)) {
                return BAD_NUMBER;
            }
            if (seenCount >= SEEN) {
                return NO_ROOM;
            }
            put(seenYears, seenCount, years);
            put(seenCourses, seenCount, courses);
            seenCount++;
            return seenCount;
        }

        private static void copyLaw(Text from, Text to) {
            if (from != null && to != null) {
                to.copyFrom(from);
            }
        }
    }

    /** A text that was read: its clauses, and the steps by which their sums and tests are reckoned. */
    private static final class Text {
        // Each step comes of a token of its own, so there are no more than bytes.
        final int[] steps = new int[TAPE];
        final int[] kinds = new int[CLAUSES];
        final int[] firsts = new int[CLAUSES];
        final int[] seconds = new int[CLAUSES];
        final int[] repeats = new int[CLAUSES];
        final int[] tests = new int[CLAUSES];
        int size;
        int clauses;

        void copyFrom(Text other) {
            copyRow(other.steps, steps);
            copyRow(other.kinds, kinds);
            copyRow(other.firsts, firsts);
            copyRow(other.seconds, seconds);
            copyRow(other.repeats, repeats);
            copyRow(other.tests, tests);
            size = other.size;
            clauses = other.clauses;
        }

        void open(int kind) {
            put(kinds, clauses, kind);
            put(firsts, clauses, NONE);
            put(seconds, clauses, NONE);
            put(repeats, clauses, 1);
            put(tests, clauses, NONE);
        }

        /** Here a sum or a test of the clause at hand starts. */
        void mark(int[] places) {
            put(places, clauses, size);
        }

        void add(int step, int with) {
            if (size >= 0 && size < steps.length) {
                steps[size] = step << STEP_BITS | with;
                size++;
            }
        }

        /** The step at that place goes on behind all that stands now. */
        void aim(int place, int step) {
            put(steps, place, step << STEP_BITS | size);
        }
    }

    /** The tape, and how texts are read from it: what can't go on stays the token at hand, which is the fault. */
    private static final class Reader {
        final int[] tape = new int[TAPE];
        final Text text = new Text();
        int length;
        int fault = NONE;
        private int start;
        private int behind;
        private int parts;
        private boolean ordering;

        void append(int four) {
            for (int shift = 24; shift >= 0; shift -= 8) {
                put(tape, length, four >>> shift & BYTE);
                length = Math.min(TAPE, length + 1);
            }
        }

        /** Whether the tape, which is empty then, is a text. */
        boolean read(boolean asOrders) {
            ordering = asOrders;
            text.size = 0;
            text.clauses = 0;
            parts = 0;
            behind = 0;
            advance();
            boolean good = clause();
            for (int i = 0; i < CLAUSES && good && start < length; i++) {
                good = take(";") && text.clauses < CLAUSES && clause();
            }
            fault = good ? NONE : start;
            length = 0;
            return good;
        }

        private boolean clause() {
            int kind = which(ordering ? ORDER_KINDS : LAW_KINDS);
            if (kind == NONE) {
                return false;
            }
            advance();
            text.open(kind);
            boolean good = kind == (ordering ? PASS : BARS) || wholeSum(text.firsts);
            if (good && ordering) {
                good = (kind != BEGIN || take("at") && wholeSum(text.seconds)) && times();
            }
            if (good && take("if")) {
                text.mark(text.tests);
                good = test(0);
                text.add(STOP, 0);
            }
            text.clauses++;
            return good;
        }

        private boolean times() {
            if (!take("times")) {
                return true;
            }
            int times = number();
            if (!within(times, 1, MOST_TIMES)) {
                return false;
            }
            put(text.repeats, text.clauses, times);
            advance();
            return true;
        }

        private boolean wholeSum(int[] places) {
            text.mark(places);
            boolean good = sum(0);
            text.add(STOP, 0);
            return good;
        }

        private boolean test(int depth) {
            boolean good = both(depth);
            for (int i = 0; i < TAPE && good && take("or"); i++) {
                int place = text.size;
                text.add(OR, 0);
                good = both(depth);
                text.aim(place, OR);
            }
            return good;
        }

        private boolean both(int depth) {
            boolean good = plain(depth);
            for (int i = 0; i < TAPE && good && take("and"); i++) {
                int place = text.size;
                text.add(AND, 0);
                good = plain(depth);
                text.aim(place, AND);
            }
            return good;
        }

        private boolean plain(int depth) {
            // A row of "not" is counted, not gone into: a hundred of them have room.
            boolean turned = false;
            for (int i = 0; i < TAPE && take("not"); i++) {
                turned = !turned;
            }
            boolean good;
            if (which("(") == 0) {
                good = depth < BRACKETS && take("(") && test(depth + 1) && take(")");
            } else {
                good = sum(depth);
                int sign = which(COMPARISONS);
                good = good && take(COMPARISONS) && sum(depth);
                text.add(FIRST_COMPARISON + sign, 0);
            }
            if (turned) {
                text.add(NOT, 0);
            }
            return good;
        }

        private boolean sum(int depth) {
            boolean good = term(depth);
            int sign = which(SUM_SIGNS);
            for (int i = 0; i < TAPE && good && sign != NONE; i++) {
                advance();
                good = term(depth);
                text.add(FIRST_SUM_SIGN + sign, 0);
                sign = which(SUM_SIGNS);
            }
            return good;
        }

        private boolean term(int depth) {
            boolean good = part(depth);
            int sign = which(TERM_SIGNS);
            for (int i = 0; i < TAPE && good && sign != NONE; i++) {
                advance();
                good = part(depth);
                text.add(FIRST_TERM_SIGN + sign, 0);
                sign = which(TERM_SIGNS);
            }
            return good;
        }

        private boolean part(int depth) {
            if (which("[") == 0) {
                return depth < BRACKETS && take("[") && sum(depth + 1) && take("]");
            }
            int number = number();
            int word = which(ordering ? ORDER_WORDS : LAW_WORDS);
            if (parts >= PARTS || number > MOST_NUMBER || number == NONE && word == NONE) {
                return false;
            }
            parts++;
            advance();
            if (ordering && word == IN_COURSES) {
                return numberedWord(FIRST_COURSES, PLOTS);
            }
            if (ordering && word == IN_AGE) {
                return numberedWord(FIRST_AGE, BUILDERS);
            }
            text.add(word == NONE ? NUMBER : WORD, word == NONE ? number : word);
            return true;
        }

        private boolean numberedWord(int first, int many) {
            int number = number();
            if (!within(number, 0, many - 1)) {
                return false;
            }
            advance();
            text.add(WORD, first + number);
            return true;
        }

        /** Whether the token is one of these words; it is gone by then. */
        private boolean take(String words) {
            if (which(words) == NONE) {
                return false;
            }
            advance();
            return true;
        }

        /** Which of these words, a blank between two, the token is. */
        private int which(String words) {
            int nth = 0;
            int at = start;
            for (int i = 0; i <= words.length(); i++) {
                char sign = i < words.length() ? words.charAt(i) : ' ';
                if (sign != ' ') {
                    boolean same = at >= 0 && at < behind && at < tape.length && tape[at] == sign;
                    at = same ? at + 1 : NONE;
                } else if (at == behind) {
                    return nth;
                } else {
                    nth++;
                    at = start;
                }
            }
            return NONE;
        }

        /** The number that the token is, no more than one too high; NONE if it is none. */
        private int number() {
            if (start >= length || kindOf(get(tape, start)) != '0') {
                return NONE;
            }
            int value = 0;
            for (int i = start; i < behind; i++) {
                value = Math.min(value * TEN + get(tape, i) - '0', MOST_NUMBER + 1);
            }
            return value;
        }

        private void advance() {
            start = behind;
            while (start < length && get(tape, start) == ' ') {
                start++;
            }
            behind = Math.min(length, start + 1);
            int kind = kindOf(get(tape, start));
            while (kind != ' ' && behind < length && kindOf(get(tape, behind)) == kind) {
                behind++;
            }
        }

        /** Of letters and digits longest rows are tokens, of ' ' each by itself. */
        private static int kindOf(int sign) {
            if (sign >= 'a' && sign <= 'z') {
                return 'a';
            }
            return sign >= '0' && sign <= '9' ? '0' : ' ';
        }
    }

    /** Reckons sums and tests (1, 0) of a text that was read. */
    private static final class Reckoner {
        // Parts alone are put on it.
        private final int[] stack = new int[PARTS];
        private int height;
        int value;

        /** Whether it is not broken: value is what it comes to then. What is not there (NONE) is so. */
        boolean reckon(int[] steps, int from, int[] words) {
            if (from < 0) {
                value = 1;
                return true;
            }
            height = 0;
            int at = from;
            while (at < steps.length) {
                int step = steps[at] >> STEP_BITS;
                int with = steps[at] & STEP_MASK;
                at++;
                if (step == STOP) {
                    value = pop();
                    return true;
                }
                if (step == OR || step == AND) {
                    int so = pop();
                    if (so == (step == OR ? 1 : 0)) {
                        push(so);
                        at = Math.max(at, with);
                    }
                } else if (step >= FIRST_SUM_SIGN) {
                    int second = pop();
                    long told = join(step, pop(), second);
                    if (told > BOUND || told < -BOUND) {
                        return false;
                    }
                    push((int) told);
                } else if (step == NOT) {
                    push(1 - pop());
                } else {
                    push(step == WORD ? get(words, with) : with);
                }
            }
            return false;
        }

        private void push(int number) {
            if (height >= 0 && height < stack.length) {
                stack[height] = number;
                height++;
            }
        }

        private int pop() {
            if (height <= 0 || height > stack.length) {
                return 0;
            }
            height--;
            return stack[height];
        }

        private static long join(int sign, long a, long b) {
            switch (sign) {
                case PLUS:
                    return a + b;
                case MINUS:
                    return a - b;
                case BY:
                    return a * b;
                case OVER:
                    return b == 0 ? BROKEN : a / b;
                case REST:
                    return b == 0 ? BROKEN : a % b;
                case LESS:
                    return a < b ? 1 : 0;
                case MORE:
                    return a > b ? 1 : 0;
                case SAME:
                    return a == b ? 1 : 0;
                default:
                    return BROKEN;
            }
        }
    }

    /** Asks laws of what was heard: a builder, a plot and the time, as they stand or on paper. */
    private static final class Court {
        private final Borough borough;
        private final Reckoner reckoner = new Reckoner();
        private final int[] words = new int[LAW_WORD_COUNT];

        Court(Borough borough) {
            this.borough = borough;
        }

        /** A builder or NONE, a plot or NONE, as they stand on that street. */
        void hear(Street street, int builder, int plot) {
            put(words, OF_BUILDER, builder);
            put(words, OF_AGE, get(street.ages, builder));
            put(words, OF_PACE, get(street.paces, builder));
            put(words, OF_PLOT, plot);
            put(words, OF_COURSES, get(street.courses, plot));
            put(words, OF_LEFT, get(street.left, plot));
            put(words, OF_YEAR, get(street.terms, YEAR));
            put(words, OF_MOOD, get(street.terms, MOOD));
        }

        /** On paper so many years later. */
        void later(int years) {
            put(words, OF_AGE, Math.min(OLDEST, get(words, OF_AGE) + years));
            put(words, OF_YEAR, get(words, OF_YEAR) + years);
        }

        /** On paper so many courses on the plot. */
        void raised(int courses) {
            put(words, OF_COURSES, courses);
        }

        int thousandths(Text law) {
            return nearest(told(law, DIES, get(words, OF_AGE)), 0, THOUSAND);
        }

        int coursesAYear() {
            return nearest(told(borough.lawInForce(), LAYS, get(words, OF_PACE)), 0, FULL);
        }

        int worthOfPlot() {
            return nearest(told(borough.lawInForce(), WORTH, get(words, OF_COURSES)), 0, MOST_WORTH);
        }

        boolean mayStart(Street street, int builder, int plot) {
            if (!street.isFree(builder) || street.workerOn(plot) != NONE) {
                return false;
            }
            if (get(street.courses, plot) != 0 || get(street.left, plot) != 0) {
                return false;
            }
            hear(street, builder, plot);
            return told(borough.lawInForce(), BARS, 0) == 0;
        }

        /** A year on that street: how many courses came. */
        int passOn(Street street) {
            int came = 0;
            for (int builder = 0; builder < street.builders; builder++) {
                int plot = get(street.plots, builder);
                if (plot != NONE) {
                    hear(street, builder, plot);
                    int lays = told(borough.lawInForce(), LAYS, get(words, OF_PACE));
                    came += street.raise(builder, nearest(lays, 0, FULL));
                }
            }
            street.grow();
            return came;
        }

        /** What the last clause of that kind that holds tells ("bars", which has no sum: 1). */
        private int told(Text law, int kind, int without) {
            if (law == null) {
                return without;
            }
            for (int i = law.clauses - 1; i >= 0; i--) {
                if (get(law.kinds, i) == kind) {
                    boolean so = reckoner.reckon(law.steps, get(law.tests, i), words) && reckoner.value == 1;
                    if (so && reckoner.reckon(law.steps, get(law.firsts, i), words)) {
                        return reckoner.value;
                    }
                }
            }
            return without;
        }
    }

    /** How the street was ahead of the latest doings. */
    private static final class History {
        private final Street[] streets = new Street[UNDONE_KEPT];
        private final int[] kinds = new int[UNDONE_KEPT];
        private int first;
        int size;

        History() {
            for (int i = 0; i < streets.length; i++) {
                streets[i] = new Street();
            }
        }

        void copyFrom(History other) {
            first = 0;
            size = other.size;
            for (int i = 0; i < size; i++) {
                Street to = streetAt(i);
                Street from = other.streetAt(i);
                if (to != null && from != null) {
                    to.copyFrom(from);
                }
                put(kinds, i, get(other.kinds, other.place(i)));
            }
        }

        void clear() {
            size = 0;
        }

        void keep(int kind, Street street) {
            if (size >= UNDONE_KEPT) {
                first = place(1);
                size = UNDONE_KEPT - 1;
            }
            Street slot = streetAt(size);
            if (slot != null) {
                slot.copyFrom(street);
            }
            put(kinds, place(size), kind);
            size++;
        }

        /** The street is as it was ahead of the latest: which kind that was. */
        int restore(Street street) {
            if (size <= 0) {
                return IMPOSSIBLE;
            }
            size--;
            Street slot = streetAt(size);
            if (slot != null) {
                street.copyFrom(slot);
            }
            return get(kinds, place(size));
        }

        private int place(int nth) {
            return (first + nth) % UNDONE_KEPT;
        }

        private Street streetAt(int nth) {
            int i = place(nth);
            return i >= 0 && i < streets.length ? streets[i] : null;
        }
    }

    /** What is done on the street and can be undone, and orders to do it. */
    private static final class Works {
        private final Street street;
        private final Court court;
        private final Street streetAhead = new Street();
        private final History historyAhead = new History();
        private final Reckoner reckoner = new Reckoner();
        private final int[] words = new int[ORDER_WORD_COUNT];
        final History history = new History();
        private int done;
        private int latestPass;
        int stoppedAt;

        Works(Street street, Court court) {
            this.street = street;
            this.court = court;
        }

        int startOn(int builder, int plot) {
            if (!within(plot, 0, PLOTS - 1)) {
                return BAD_NUMBER;
            }
            if (!street.has(builder)) {
                return MISSING;
            }
            if (!court.mayStart(street, builder, plot)) {
                return IMPOSSIBLE;
            }
            history.keep(BEGIN, street);
            put(street.plots, builder, plot);
            return street.freeOnes();
        }

        int addCourse(int builder) {
            if (!street.has(builder)) {
                return MISSING;
            }
            int plot = get(street.plots, builder);
            if (plot == NONE) {
                return IMPOSSIBLE;
            }
            history.keep(LAY, street);
            street.raise(builder, 1);
            return get(street.courses, plot);
        }

        int bury(int builder) {
            if (!street.has(builder)) {
                return MISSING;
            }
            if (get(street.alive, builder) == 0) {
                return IMPOSSIBLE;
            }
            history.keep(DIE, street);
            return street.lose(builder);
        }

        int passYear() {
            if (get(street.terms, YEAR) >= LAST_YEAR) {
                return IMPOSSIBLE;
            }
            history.keep(PASS, street);
            return court.passOn(street);
        }

        int takeBack() {
            return history.restore(street);
        }

        /** How many were run; if one can't be, stoppedAt is its clause and nothing was run. */
        int runAll(Text text) {
            streetAhead.copyFrom(street);
            historyAhead.copyFrom(history);
            done = 0;
            latestPass = NONE;
            stoppedAt = NONE;
            for (int clause = 0; clause < text.clauses; clause++) {
                int times = get(text.repeats, clause);
                for (int i = 0; i < times; i++) {
                    if (!runOnce(text, clause)) {
                        stoppedAt = clause;
                        street.copyFrom(streetAhead);
                        history.copyFrom(historyAhead);
                        return IMPOSSIBLE;
                    }
                }
            }
            return done;
        }

        /** Whether it could be, or was not asked for. */
        private boolean runOnce(Text text, int clause) {
            fillWords();
            boolean so = reckoner.reckon(text.steps, get(text.tests, clause), words) && reckoner.value == 1;
            if (!so) {
                return true;
            }
            if (!reckoner.reckon(text.steps, get(text.firsts, clause), words)) {
                return false;
            }
            int first = reckoner.value;
            if (!reckoner.reckon(text.steps, get(text.seconds, clause), words)) {
                return false;
            }
            done++;
            switch (get(text.kinds, clause)) {
                case BEGIN:
                    return startOn(first, reckoner.value) >= 0;
                case LAY:
                    return addCourse(first) >= 0;
                case DIE:
                    return bury(first) >= 0;
                case PASS:
                    latestPass = passYear();
                    return latestPass >= 0;
                default:
                    return false;
            }
        }

        private void fillWords() {
            put(words, IN_YEAR, get(street.terms, YEAR));
            put(words, IN_DONE, done);
            put(words, IN_LATEST, latestPass);
            put(words, IN_LEFT, Integer.bitCount(street.leftSet()));
            put(words, IN_FREE, street.freeOnes());
            for (int plot = 0; plot < PLOTS; plot++) {
                put(words, FIRST_COURSES + plot, get(street.courses, plot));
            }
            for (int builder = 0; builder < BUILDERS; builder++) {
                put(words, FIRST_AGE + builder, street.has(builder) ? get(street.ages, builder) : NONE);
            }
        }
    }

    /** What would be, reckoned on paper from the borough as it stands. */
    private static final class Paper {
        private final Borough borough;
        private final Street street;
        private final Court court;
        private final long[] both = new long[LONGEST_BRIDGE];
        private final long[] first = new long[LONGEST_BRIDGE];
        private final long[] second = new long[LONGEST_BRIDGE];
        private final long[] slipped = new long[MOST_SLIPS];
        private final int[][] laid = new int[BUILDERS][SEEN_YEARS + 1];
        private long bridged;
        long stayed;

        Paper(Borough borough, Court court) {
            this.borough = borough;
            this.street = borough.street;
            this.court = court;
        }

        /** In how many years the plot has all its courses; stayed is the parts in which he lives so long. */
        int build(int builder, int plot) {
            stayed = WHOLE;
            int courses = get(street.courses, plot);
            court.hear(street, builder, plot);
            for (int year = 0; year <= PAPER_YEARS; year++) {
                if (courses >= FULL) {
                    return year;
                }
                stayed = staying(stayed, court.thousandths(borough.lawInForce()));
                courses += court.coursesAYear();
                court.raised(courses);
                court.later(1);
            }
            stayed = 0;
            return NONE;
        }

        long survive(int builder, int years) {
            long parts = WHOLE;
            court.hear(street, builder, get(street.plots, builder));
            for (int year = 0; year < years; year++) {
                parts = staying(parts, court.thousandths(borough.lawInForce()));
                court.later(1);
            }
            return parts;
        }

        long meet(int one, int other, int n) {
            clear(both);
            clear(first);
            clear(second);
            bridged = 0;
            boolean oneLives = get(street.alive, one) == 1;
            boolean otherLives = get(street.alive, other) == 1;
            if (oneLives || otherLives) {
                putLong(oneLives && otherLives ? both : oneLives ? first : second, 0, WHOLE);
            }
            for (int year = 0; year < PAPER_YEARS; year++) {
                court.hear(street, one, NONE);
                court.later(year);
                int d = court.thousandths(borough.lawInForce());
                int l = court.coursesAYear();
                court.hear(street, other, NONE);
                court.later(year);
                bridgeYear(n, d, l, court.thousandths(borough.lawInForce()), court.coursesAYear());
            }
            return bridged;
        }

        /** From the most courses down, so that what comes to a place is not moved on in the same year. */
        private void bridgeYear(int n, int d, int l, int e, int m) {
            for (int c = n - 1; c >= 0; c--) {
                long together = getLong(both, c);
                long firstAlone = staying(getLong(first, c), d);
                long secondAlone = staying(getLong(second, c), e);
                putLong(both, c, 0);
                putLong(first, c, 0);
                putLong(second, c, 0);
                long q = staying(together, d);
                long still = staying(q, e);
                come(both, n, c + l + m, still);
                come(first, n, c + l, q - still + firstAlone);
                come(second, n, c + m, staying(together - q, e) + secondAlone);
            }
        }

        private void come(long[] row, int n, int courses, long parts) {
            if (courses >= n) {
                bridged += parts;
            } else {
                putLong(row, courses, getLong(row, courses) + parts);
            }
        }

        long fewer(int k, int n) {
            int slips = get(street.terms, SLIPS);
            clear(slipped);
            putLong(slipped, 0, WHOLE);
            for (int course = 0; course < n; course++) {
                for (int i = k - 1; i >= 0; i--) {
                    long more = i == 0 ? 0 : getLong(slipped, i - 1) * slips / TEN;
                    putLong(slipped, i, getLong(slipped, i) * (TEN - slips) / TEN + more);
                }
            }
            long all = 0;
            for (int i = 0; i < k; i++) {
                all += getLong(slipped, i);
            }
            return all;
        }

        int possible() {
            fillLaid();
            int set = 0;
            for (int builder = 0; builder < street.builders; builder++) {
                if (get(street.alive, builder) == 1 && laidSo(builder)) {
                    set |= 1 << builder;
                }
            }
            return set;
        }

        /** The year to look in, or how many are left at most then. */
        int bestLook(boolean year) {
            int set = possible();
            int best = NONE;
            int fewest = BUILDERS + 1;
            for (int y = 0; y <= SEEN_YEARS && set != 0; y++) {
                int most = mostAlike(set, y);
                if (most < fewest) {
                    fewest = most;
                    best = y;
                }
            }
            if (best == NONE) {
                return NONE;
            }
            return year ? best : fewest;
        }

        private int mostAlike(int set, int year) {
            int most = 0;
            for (int one = 0; one < BUILDERS; one++) {
                int alike = 0;
                for (int other = 0; other < BUILDERS; other++) {
                    boolean asked = (set >> one & set >> other & 1) == 1;
                    alike += asked && laidBy(one, year) == laidBy(other, year) ? 1 : 0;
                }
                most = Math.max(most, alike);
            }
            return most;
        }

        private boolean laidSo(int builder) {
            for (int i = 0; i < borough.seenCount; i++) {
                if (laidBy(builder, get(borough.seenYears, i)) != get(borough.seenCourses, i)) {
                    return false;
                }
            }
            return true;
        }

        private int laidBy(int builder, int year) {
            return builder >= 0 && builder < laid.length ? get(laid[builder], year) : NONE;
        }

        private void fillLaid() {
            for (int builder = 0; builder < street.builders && builder < laid.length; builder++) {
                int courses = 0;
                court.hear(street, builder, NONE);
                for (int year = 0; year <= SEEN_YEARS; year++) {
                    put(laid[builder], year, courses);
                    courses += court.coursesAYear();
                    court.later(1);
                }
            }
        }

        private static void clear(long[] row) {
            for (int i = 0; i < row.length; i++) {
                row[i] = 0;
            }
        }
    }

    /** Which builder to which plot. */
    private static final class Planner {
        private final Street street;
        private final Court court;
        private final Paper paper;
        private final int[] plots = new int[PLANNED];
        private final long[][] chances = new long[BUILDERS][PLANNED];
        // The most that builders from one on can come to, by which of the plots are taken ahead of them.
        private final long[][] most = new long[BUILDERS + 1][PLANNED_SETS];
        private int many;

        Planner(Street street, Court court, Paper paper) {
            this.street = street;
            this.court = court;
            this.paper = paper;
        }

        void make(int set) {
            many = 0;
            for (int plot = 0; plot < PLOTS; plot++) {
                if ((set >> plot & 1) == 1) {
                    put(plots, many, plot);
                    many++;
                }
            }
            many = Math.min(many, PLANNED);
            fillChances();
            for (int builder = BUILDERS - 1; builder >= 0; builder--) {
                for (int taken = 0; taken < PLANNED_SETS; taken++) {
                    putLong(rowOf(most, builder), taken, mostFrom(builder, taken));
                }
            }
        }

        long together() {
            return getLong(rowOf(most, 0), 0);
        }

        int plotOf(int builder) {
            int taken = 0;
            int choice = NONE;
            for (int one = 0; one <= builder && one < BUILDERS; one++) {
                choice = firstBest(one, taken);
                taken |= choice == NONE ? 0 : 1 << choice;
            }
            return get(plots, choice);
        }

        private void fillChances() {
            for (int builder = 0; builder < BUILDERS; builder++) {
                for (int i = 0; i < many; i++) {
                    boolean may = court.mayStart(street, builder, get(plots, i));
                    if (may) {
                        paper.build(builder, get(plots, i));
                    }
                    putLong(rowOf(chances, builder), i, may ? paper.stayed : NONE);
                }
            }
        }

        private long mostFrom(int builder, int taken) {
            long best = getLong(rowOf(most, builder + 1), taken);
            for (int i = 0; i < many; i++) {
                best = Math.max(best, with(builder, i, taken));
            }
            return best;
        }

        private int firstBest(int builder, int taken) {
            long best = getLong(rowOf(most, builder), taken);
            for (int i = 0; i < many; i++) {
                if (with(builder, i, taken) == best) {
                    return i;
                }
            }
            return NONE;
        }

        /** What comes together from him on, if he has that plot; NONE if he can't have it. */
        private long with(int builder, int i, int taken) {
            long chance = getLong(rowOf(chances, builder), i);
            if (chance == NONE || (taken >> i & 1) == 1) {
                return NONE;
            }
            return chance + getLong(rowOf(most, builder + 1), taken | 1 << i);
        }

        private static long[] rowOf(long[][] rows, int i) {
            return i >= 0 && i < rows.length ? rows[i] : null;
        }
    }

    /** The latest centuries, drawn on a street of their own. */
    private static final class Centuries {
        private final Borough borough;
        private final Court court;
        final Street street = new Street();
        boolean drawn;
        private int s;

        Centuries(Borough borough, Court court) {
            this.borough = borough;
            this.court = court;
        }

        void draw(Street from, int seed, int n) {
            street.copyFrom(from);
            drawn = true;
            s = seed;
            for (int i = 0; i < n && get(street.terms, YEAR) < LAST_YEAR; i++) {
                for (int builder = 0; builder < street.builders; builder++) {
                    if (get(street.alive, builder) == 1) {
                        fare(builder);
                    }
                }
                court.passOn(street);
            }
        }

        private void fare(int builder) {
            court.hear(street, builder, get(street.plots, builder));
            if (next(THOUSAND) < court.thousandths(borough.lawInForce())) {
                street.lose(builder);
            } else if (street.isFree(builder)) {
                int plot = next(PLOTS);
                if (court.mayStart(street, builder, plot)) {
                    put(street.plots, builder, plot);
                }
            }
        }

        private int next(int many) {
            s = (s * DRAW_TIMES + DRAW_MORE) % DRAW_MODULO;
            return many > 0 ? s % many : 0;
        }
    }
}
