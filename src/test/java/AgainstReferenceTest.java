import java.lang.reflect.InvocationTargetException;
import java.lang.reflect.Method;
import java.util.HashMap;
import java.util.Map;
import java.util.Random;

/** Runs of random calls: the program and the reference must give the same answers, all the way. */
public final class AgainstReferenceTest {
    // Behind each name what its arguments are: y year, d day, w what, f feast, r rank or law, m month, n number,
    // t day told, a fate, k weekday, b boolean.
    private static final String[] CALLS = {
        "year yw", "day ydw", "office ydw", "base ydw", "fast yd", "lesson yd", "joined yd", "feast fw", "of fyw",
        "rank fr", "law fr", "put fmt", "reach n", "undo", "cycle", "fates fab", "far f", "span fb", "meets f",
        "beats ff", "safe f", "next fky", "unresolved", "paschs d", "alike yy", "sorts", "yields ff", "course w",
        "heaviest ynb", "interval fb", "order f", "better fnw", "rival f", "lull n", "tally ya", "leader", "image",
        "back", "count w", "fault"};

    private final Map<String, Method> mine = methods(FeastBook.class);
    private final Map<String, Method> due = methods(Reference.class);
    private final Random r;
    private final FeastBook x = new FeastBook();
    private final Reference ref = new Reference();
    private final StringBuilder told = new StringBuilder();

    private AgainstReferenceTest(long seed) {
        r = new Random(seed);
    }

    private static Map<String, Method> methods(Class<?> c) {
        Map<String, Method> all = new HashMap<>();
        for (Method m : c.getDeclaredMethods()) {
            String name = m.getName();
            boolean counts = false;
            for (String call : CALLS) {
                String[] parts = call.split(" ");
                counts |= parts[0].equals(name) && m.getParameterCount() == (parts.length < 2 ? 0 : parts[1].length())
                    && (m.getParameterCount() == 0 || m.getParameterTypes()[0].isPrimitive());
            }
            if (counts) {
                m.setAccessible(true);
                all.put(name, m);
            }
        }
        return all;
    }

    private static String answer(Object on, Method m, Object[] args) {
        try {
            return String.valueOf(m.invoke(on, args));
        } catch (InvocationTargetException e) {
            return "throws " + e.getCause().getClass().getName();
        } catch (IllegalAccessException e) {
            throw new AssertionError(e);
        }
    }

    private Object argument(char kind) {
        boolean odd = r.nextInt(40) == 0;
        switch (kind) {
            case 'y':
                return odd ? new int[] {-1, 10000, 9999, 9990, Integer.MIN_VALUE}[r.nextInt(5)]
                    : r.nextInt(6) == 0 ? r.nextInt(10000) : r.nextInt(40);
            case 'd':
                return odd ? new int[] {-1, 250, Integer.MAX_VALUE}[r.nextInt(3)]
                    : r.nextInt(Math.max(1, ref.plainDays() + (r.nextInt(8) == 0 ? 2 : 0)));
            case 'w':
                return odd ? r.nextInt(14) - 1 : r.nextInt(r.nextBoolean() ? 3 : 12);
            case 'f':
                return odd ? r.nextInt(15) - 1 : r.nextInt(Math.max(1, ref.st.feasts.size()));
            case 'r':
                return odd ? r.nextInt(12) - 1 : r.nextInt(r.nextBoolean() ? 4 : 10);
            case 'm':
                return r.nextBoolean() ? NONE : r.nextInt(ref.st.months.size() + 1);
            case 't':
                return odd ? r.nextInt(220) - 110 : r.nextInt(20) - 6;
            case 'n':
                return odd ? r.nextInt(64) - 2 : r.nextInt(r.nextBoolean() ? 6 : 61);
            case 'a':
                return odd ? r.nextInt(8) - 1 : r.nextInt(6);
            case 'k':
                return odd ? r.nextInt(12) - 1 : r.nextInt(Math.max(1, ref.st.week));
            default:
                return r.nextBoolean();
        }
    }

    private static final int NONE = -1;

    private boolean same(String call, String got, String want) {
        told.append(call).append(" => ").append(want).append('\n');
        if (got.equals(want)) {
            return true;
        }
        System.out.println(told);
        System.out.println("answered " + got + ", due is " + want);
        return false;
    }

    private boolean callOne() {
        String[] call = CALLS[r.nextInt(CALLS.length)].split(" ");
        boolean slow = call[0].equals("better") || call[0].equals("safe");
        if (slow && ref.st.told && (ref.cycle() > 60 && r.nextInt(6) > 0 || ref.cycle() > 400)) {
            return true;
        }
        String kinds = call.length < 2 ? "" : call[1];
        Object[] args = new Object[kinds.length()];
        for (int i = 0; i < args.length; i++) {
            args[i] = argument(kinds.charAt(i));
        }
        String what = call[0] + java.util.Arrays.toString(args);
        return same(what, answer(x, mine.get(call[0]), args), answer(ref, due.get(call[0]), args));
    }

    private String tell(Object on, String text) {
        byte[] all = Texts.bytes(text);
        try {
            for (int i = 0; i < all.length; i += 20) {
                int[] n = Texts.fives(all, i);
                if (on instanceof FeastBook b) {
                    b.feed(n[0], n[1], n[2], n[3], n[4]);
                } else {
                    ref.feed(n[0], n[1], n[2], n[3], n[4]);
                }
            }
            if (on instanceof FeastBook b) {
                b.end(all.length);
                return String.valueOf(b.book());
            }
            ref.end(all.length);
            return String.valueOf(ref.book());
        } catch (IllegalArgumentException e) {
            return "throws";
        }
    }

    private boolean tellOne() {
        String text = Texts.random(r);
        for (int i = r.nextInt(4); i > 1; i--) {
            text = Texts.spoil(r, text);
        }
        if (text.length() > 400) {
            return true;
        }
        return same("text '" + text + "'", tell(x, text), tell(ref, text))
            && same("fault", "" + x.fault(), "" + ref.fault());
    }

    private boolean run() {
        int calls = 150;
        for (int i = 0; i < calls; i++) {
            if (i % 60 == 3 || i > 3 && !ref.st.told) {
                if (!tellOne()) {
                    return false;
                }
            } else if (!callOne()) {
                return false;
            }
        }
        return true;
    }

    private static boolean texts(long seed) {
        AgainstReferenceTest t = new AgainstReferenceTest(seed);
        for (int i = 0; i < 100; i++) {
            if (!t.tellOne()) {
                return false;
            }
        }
        return true;
    }

    public static void main(String[] args) {
        int runs = args.length > 0 ? Integer.parseInt(args[0]) : 250;
        int from = args.length > 1 ? Integer.parseInt(args[1]) : 1;
        for (int seed = from; seed < from + runs; seed++) {
            if (!new AgainstReferenceTest(seed).run() || !texts(-seed)) {
                System.out.println("AgainstReferenceTest failed with seed " + seed);
                System.exit(1);
            }
        }
        System.out.println("AgainstReferenceTest: " + runs + " runs as due");
    }
}
