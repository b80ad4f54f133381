import java.lang.reflect.Method;
import java.lang.reflect.Modifier;
import java.util.Arrays;
import java.util.HashMap;
import java.util.Map;

/** Runs of drawn calls, each answer held against the Model's. Arguments: the first seed and how many runs. */
public final class RandomRunsTest {
    private static final Map<String, Method> WALLS = methodsOf(WallsLeft.class);
    private static final Map<String, Method> MODEL = methodsOf(Model.class);

    private static int wrong = 0;
    private static int calls = 0;

    private final Scribe scribe;
    private final WallsLeft walls = new WallsLeft();
    private final Model model = new Model();
    private final StringBuilder log = new StringBuilder();
    private final long seed;
    private int made = 0;
    private boolean off = false;

    private RandomRunsTest(long seed) {
        this.seed = seed;
        scribe = new Scribe(seed);
    }

    public static void main(String[] args) {
        long first = args.length > 0 ? Long.parseLong(args[0]) : 1;
        int runs = args.length > 1 ? Integer.parseInt(args[1]) : 600;
        for (int i = 0; i < runs && wrong < 5; i++) {
            new RandomRunsTest(first + i).run();
        }
        System.out.println("RandomRunsTest: " + runs + " runs, " + calls + " calls, " + wrong + " wrong");
        if (wrong != 0) {
            System.exit(1);
        }
    }

    private void run() {
        int men = scribe.draw(7);
        for (int i = 0; i < men; i++) {
            call("builder", 16 + scribe.draw(scribe.once(3) ? 84 : 50), 1 + scribe.draw(3));
        }
        while (made < 500 && !off) {
            step();
        }
    }

    private void step() {
        int kind = scribe.draw(100);
        if (kind < 7) {
            write(scribe.once(12) ? scribe.edge(false) : scribe.law());
            long told = call("law");
            if (told >= 0 && scribe.draw(5) > 0) {
                call("force", (int) told);
            }
            call("fault");
        } else if (kind < 15) {
            write(scribe.once(15) ? scribe.edge(true) : scribe.orders());
            call("orders");
            call("fault");
            call("stopped");
            call("count", 6);
        } else if (kind < 16) {
            if (scribe.once(2)) {
                rowOfBytes();
            } else if (scribe.once(3)) {
                call("builder", 16 + scribe.draw(84), 1 + scribe.draw(3));
            }
        } else if (kind < 18) {
            call("image", scribe.draw(2));
        } else if (kind < 19) {
            call("back", scribe.draw(2));
        } else if (kind < 20) {
            call("force", scribe.draw(8) - 1);
        } else if (kind < 44) {
            doing();
        } else if (kind < 96) {
            asking();
        } else {
            strange();
        }
        if (scribe.once(3)) {
            call("status");
        }
    }

    private void doing() {
        int b = scribe.draw(6);
        switch (scribe.draw(12)) {
            case 0: case 1: case 2:
                call("begin", b, scribe.draw(16));
                break;
            case 3: case 4: case 5:
                call("lay", b);
                break;
            case 6:
                if (scribe.once(3)) {
                    call("die", b);
                }
                break;
            case 7: case 8:
                call("pass");
                break;
            case 9: case 10:
                call("undo");
                break;
            default:
                if (scribe.once(4)) {
                    int what = scribe.draw(3);
                    call("terms", what, what == 0 ? scribe.once(3) ? 990 + scribe.draw(10) : scribe.draw(50) : scribe.draw(10));
                } else {
                    call("seen", scribe.draw(6), scribe.draw(10));
                }
                break;
        }
    }

    private void asking() {
        int b = scribe.draw(scribe.once(10) ? 8 : 6) - (scribe.once(20) ? 1 : 0);
        int p = scribe.draw(scribe.once(10) ? 18 : 16) - (scribe.once(20) ? 1 : 0);
        switch (scribe.draw(24)) {
            case 0: case 1: case 2:
                call("of", b, scribe.draw(7));
                break;
            case 3: case 4:
                call("at", p, scribe.draw(5));
                break;
            case 5:
                call("can", b, p);
                break;
            case 6: case 7:
                call("chance", b, p);
                break;
            case 8:
                call("years", b, p);
                break;
            case 9:
                call("lives", b, scribe.draw(scribe.once(5) ? 101 : 12));
                break;
            case 10: case 11:
                int plots = 0;
                int many = scribe.draw(scribe.once(8) ? 8 : 7);
                for (int i = 0; i < many; i++) {
                    plots |= 1 << scribe.draw(16);
                }
                call("plan", plots, scribe.draw(8) - 1);
                call("plan", plots, -1);
                break;
            case 12: case 13:
                call("bridge", b, scribe.draw(6), scribe.draw(42));
                break;
            case 14:
                call("stair", scribe.draw(3));
                break;
            case 15:
                call("stretch", scribe.draw(11), scribe.draw(3));
                call("rooms", scribe.draw(11));
                break;
            case 16:
                call("seat");
                break;
            case 17:
                call("canBe");
                call("look", scribe.draw(3));
                break;
            case 18:
                if (scribe.once(2)) {
                    call("forget");
                }
                call("canBe");
                break;
            case 19:
                call("few", scribe.draw(22), scribe.draw(scribe.once(3) ? 101 : 30));
                break;
            case 20:
                call("compare", scribe.draw(8) - 1, b);
                break;
            case 21:
                call("centuries", scribe.draw(1_000_001), 1 + scribe.draw(scribe.once(4) ? 61 : 10));
                for (int i = 0; i < 4; i++) {
                    call("drawn", scribe.draw(17), scribe.draw(3));
                }
                break;
            default:
                call("count", scribe.draw(18));
                break;
        }
    }

    private void strange() {
        String[] names = {"builder", "of", "at", "can", "terms", "end", "begin", "lay", "die", "chance", "years", "lives", "plan", "bridge",
            "stair", "stretch", "rooms", "seen", "look", "few", "compare", "centuries", "drawn", "image", "back", "count", "force", "feed"};
        String name = names[scribe.draw(names.length)];
        int[] args = new int[5];
        for (int i = 0; i < 5; i++) {
            int[] some = {Integer.MIN_VALUE, Integer.MAX_VALUE, -1, 0, 1, 16, 6, 65535, 65536, 99, 100, 1_000_000, 1_000_001, -2, 60, 61};
            args[i] = some[scribe.draw(some.length)];
        }
        call(name, args);
    }

    private void rowOfBytes() {
        call("end", 0);
        int many = scribe.draw(15);
        StringBuilder b = new StringBuilder();
        for (int i = 0; i < many; i++) {
            b.append((char) (i % 2 == 0 ? 10 + scribe.draw(95) : scribe.draw(5)));
        }
        write(b.toString());
        call("row");
        call("bubbles");
    }

    private void write(String text) {
        if (!scribe.once(20)) {
            call("end", 0);
        }
        long from = call("count", 7);
        String padded = text + " ".repeat(20);
        for (int i = 0; i < text.length(); i += 20) {
            int[] five = new int[5];
            for (int j = 0; j < 20; j++) {
                five[j / 4] = five[j / 4] << 8 | padded.charAt(i + j);
            }
            call("feed", five);
        }
        call("end", (int) from + text.length());
    }

    private long call(String name, int... args) {
        made++;
        calls++;
        if (made > 512 || off) {
            return -1;
        }
        long got = ask(walls, WALLS.get(name), args);
        long due = ask(model, MODEL.get(name), args);
        log.append(name).append(Arrays.toString(args)).append(" = ").append(got).append('\n');
        if (got != due) {
            wrong++;
            off = true;
            System.out.println("seed " + seed + " call " + made + ":\n" + log + "due is " + due);
        }
        return got;
    }

    private static Map<String, Method> methodsOf(Class<?> type) {
        Map<String, Method> methods = new HashMap<>();
        for (Method m : type.getDeclaredMethods()) {
            if (!Modifier.isPrivate(m.getModifiers()) && !Modifier.isStatic(m.getModifiers())) {
                methods.put(m.getName(), m);
            }
        }
        return methods;
    }

    /** As many of the numbers as the method takes. */
    private static long ask(Object one, Method method, int[] numbers) {
        Object[] args = new Object[method.getParameterCount()];
        for (int i = 0; i < args.length; i++) {
            args[i] = numbers[i];
        }
        try {
            return ((Number) method.invoke(one, args)).longValue();
        } catch (ReflectiveOperationException e) {
            throw new IllegalStateException(method.getName(), e);
        }
    }
}
