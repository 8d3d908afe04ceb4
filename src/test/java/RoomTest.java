import java.lang.management.ManagementFactory;

/** What the dearest calls make: all calls of a run live in one room, so they must make next to nothing. */
public final class RoomTest {
    private static final Check CHECK = new Check("RoomTest");
    private static final int CALLS = 512;
    private static final String DEAREST = "book 9 31 31 31 31 31 31 31 31 leap 9 7 moon 19 99 7 30;rest 4;fast 1"
        + ";feast 9 at 0 move vigil 3 octave 2;feast 3 at 0 move;feast 5 on 3 4 back octave 3;feast 5 on 3 5 move"
        + ";feast 2 on 4 1 join;feast 8 on 4 1 drop vigil 1;feast 1 at 40 move;feast 1 at -40 back;feast 7 on 7 30 move";

    private static long made() {
        com.sun.management.ThreadMXBean threads =
            (com.sun.management.ThreadMXBean) ManagementFactory.getThreadMXBean();
        return threads.getThreadAllocatedBytes(Thread.currentThread().getId());
    }

    private static int dear(FeastBook x, int i) {
        x.rank(i % 9, 1 + i % 9);
        int sum = x.leader() + x.safe(i % 9) + x.better(i % 9, 5, 0) + x.course(i % 4) + x.lull(5) + x.interval(0, true);
        return sum + x.year(i, 8) + x.next(i % 9, 3, i) + x.rival(i % 9) + x.undo() + x.unresolved();
    }

    public static void main(String[] args) {
        FeastBook first = Texts.told(DEAREST);
        int sum = dear(first, 0);
        long before = made();
        FeastBook x = new FeastBook();
        long forOne = made() - before;
        CHECK.due("bytes of one object", true, () -> forOne < 40_000);
        Texts.feed(x, DEAREST);
        x.book();
        x.image();
        long start = made();
        for (int i = 0; i < CALLS; i++) {
            sum += dear(x, i) + (x.back() ? 1 : 0);
        }
        long forAll = made() - start;
        CHECK.due("bytes of " + CALLS + " rounds of calls", true, () -> forAll < 20_000);
        System.out.println("RoomTest: an object has " + forOne + " bytes, calls made " + forAll + " (" + sum + ")");
        CHECK.finish();
    }
}
