import java.lang.reflect.InvocationTargetException;
import java.lang.reflect.Method;
import java.lang.reflect.Modifier;
import java.util.ArrayList;
import java.util.Arrays;
import java.util.Comparator;
import java.util.List;
import java.util.Random;

/**
 * Any call with any arguments in any state, 512 calls an object: it answers as the reference does, or throws one of the
 * exceptions that its own line of the face names, and nothing else.
 */
public final class AnyArgumentsTest {
    private static final int CALLS = 512;
    private static final String[] TEXTS = {
        "book 3 5 moon 1 0 0 1", "book 9 31 31 31 31 31 31 31 31 leap 9 7 moon 19 99 30 30;feast 9 at 99 move vigil 9 octave 9",
        "book 3 5 5 leap 2 1 moon 1 0 0 1;rest 3;feast 5 on 0 3 move;feast 4 at 0 move;feast 2 on 1 0 join",
        "book 4 9 moon 2 0 3 5;reach 1;rest 9;fast 1;closed -9 9;season 0 4 2;feast 1 at 0 move;feast 1 at -99 back vigil 1",
        "book 5 10 moon 1 0 0 1" + ";feast 5 on 0 3 join vigil 1".repeat(12), "book 3 5 moon 1 0 0 9", "book 3 5;", ""};
    private static final int[] EDGES = {Integer.MIN_VALUE, Integer.MIN_VALUE + 1, -(1 << 16), -10000, -400, -100, -99, -5, -2, -1,
        0, 1, 2, 3, 4, 5, 6, 7, 8, 9, 10, 11, 12, 20, 59, 60, 61, 99, 100, 248, 249, 250, 380, 381, 400, 401, 9998, 9999, 10000,
        1 << 16, 0x626f6f6b, Integer.MAX_VALUE - 9999, Integer.MAX_VALUE - 1, Integer.MAX_VALUE};

    private final List<Method> face = face();
    private final Random r;
    private final FeastBook x = new FeastBook();
    private final Reference ref = new Reference();
    private final StringBuilder told = new StringBuilder();

    private AnyArgumentsTest(long seed) {
        r = new Random(seed);
    }

    private static List<Method> face() {
        List<Method> all = new ArrayList<>();
        for (Method m : FeastBook.class.getDeclaredMethods()) {
            if (Modifier.isPublic(m.getModifiers())) {
                all.add(m);
            }
        }
        all.sort(Comparator.comparing(Method::getName));
        return all;
    }

    private Object argument(Class<?> type) {
        if (type == boolean.class) {
            return r.nextBoolean();
        }
        switch (r.nextInt(8)) {
            case 0: return r.nextInt();
            case 1: return EDGES[r.nextInt(EDGES.length)];
            default: return r.nextInt(5) - 1 + (r.nextInt(9) == 0 ? r.nextInt(200) : 0);
        }
    }

    private static String answer(Object on, Method m, Object[] args) throws ReflectiveOperationException {
        try {
            return String.valueOf(m.invoke(on, args));
        } catch (InvocationTargetException e) {
            return e.getCause().getClass().getName();
        }
    }

    private static boolean isNamed(Method m, String thrown) {
        return Arrays.stream(m.getExceptionTypes()).anyMatch(type -> type.getName().equals(thrown));
    }

    private boolean same(String call, String got, String want, boolean allowed) {
        told.append(call).append(" => ").append(want).append('\n');
        if (got.equals(want) && allowed) {
            return true;
        }
        System.out.println(told + "answered " + got + ", due is " + want + (allowed ? "" : ", which the face does not name"));
        return false;
    }

    private boolean callOne() throws ReflectiveOperationException {
        Method m = face.get(r.nextInt(face.size()));
        boolean slow = m.getName().equals("better") || m.getName().equals("safe");
        if (slow && ref.st.told && ref.cycle() > 100) {
            return true;
        }
        Object[] args = Arrays.stream(m.getParameterTypes()).map(this::argument).toArray();
        Method due = Reference.class.getDeclaredMethod(m.getName(), m.getParameterTypes());
        due.setAccessible(true);
        String got = answer(x, m, args);
        boolean allowed = !got.startsWith("java.") || isNamed(m, got);
        return same(m.getName() + Arrays.toString(args), got, answer(ref, due, args), allowed);
    }

    /** Feeds a text behind whatever is on the TAPE, or on an empty one; to be read by some later call. */
    private boolean feedOne() {
        byte[] text = Texts.bytes(TEXTS[r.nextInt(TEXTS.length)]);
        boolean good = true;
        if (r.nextInt(4) > 0) {
            good = same("end 0", "" + x.end(0), "" + ref.end(0), true);
        }
        for (int i = 0; i < text.length && good; i += 20) {
            int[] n = Texts.fives(text, i);
            good = same("feed", "" + x.feed(n[0], n[1], n[2], n[3], n[4]), "" + ref.feed(n[0], n[1], n[2], n[3], n[4]), true);
        }
        return good && same("end " + text.length, "" + x.end(text.length), "" + ref.end(text.length), true);
    }

    private boolean read() {
        Seen mine = new Seen().ask(() -> x.book(), () -> x.fault());
        Seen due = new Seen().ask(() -> ref.book(), () -> ref.fault());
        return same("book", mine.toString(), due.toString(), true);
    }

    private boolean run() throws ReflectiveOperationException {
        for (int i = 0; i < CALLS; i++) {
            boolean good = r.nextInt(60) > 0 ? callOne() : feedOne() && (r.nextInt(3) == 0 || read());
            if (!good) {
                return false;
            }
        }
        return true;
    }

    public static void main(String[] args) throws ReflectiveOperationException {
        int runs = args.length > 0 ? Integer.parseInt(args[0]) : 50;
        int from = args.length > 1 ? Integer.parseInt(args[1]) : 1;
        for (int seed = from; seed < from + runs; seed++) {
            if (!new AnyArgumentsTest(seed).run()) {
                System.out.println("AnyArgumentsTest failed with seed " + seed);
                System.exit(1);
            }
        }
        System.out.println("AnyArgumentsTest: " + runs + " runs as due");
    }
}
