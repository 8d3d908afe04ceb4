import java.util.NoSuchElementException;

/**
 * Each promise by books that are small enough to be resolved by hand.
 * PLAIN_YEAR has ten days, WEEK 5: SUNDAYS are 0 and 5, PASCH is 5, all YEARS are alike.
 * In TURNING SUNDAYS are 0 3 6 9, 2 5 8, 1 4 7 in YEARS 0, 1, 2, and PASCH is 3, 2, 1.
 */
public final class PromisesTest {
    private static final Check CHECK = new Check("PromisesTest");
    private static final Class<?> INDEX = IndexOutOfBoundsException.class;
    private static final Class<?> ARGUMENT = IllegalArgumentException.class;
    private static final Class<?> STATE = IllegalStateException.class;
    private static final Class<?> ELEMENT = NoSuchElementException.class;
    private static final int LOW = Integer.MIN_VALUE;
    private static final int HIGH = Integer.MAX_VALUE;

    private static final String PLAIN_YEAR = "book 5 10 moon 1 0 0 1";
    private static final String TURNING = "book 3 5 5 moon 1 0 0 1";
    // FEAST 0 is KEPT on 3; 1 goes back to 2, where the VIGIL is; 2 is JOINED; 3 is DROPPED; OCTAVE is 4 to 8.
    private static final String FOUR = PLAIN_YEAR + ";feast 4 on 0 3 move vigil 2 octave 1;feast 3 at -2 back"
        + ";feast 3 on 0 3 join;feast 2 on 0 3 drop";

    private static void due(String what, Object want, Check.Call call) {
        CHECK.due(what, want, call);
    }

    private static void promise1() {
        FeastBook x = new FeastBook();
        due("cycle", STATE, () -> x.cycle());
        due("year", INDEX, () -> x.year(0, 99));
        due("feast", INDEX, () -> x.feast(0, 99));
        due("order", -1, () -> x.order(0));
        due("undo", STATE, () -> x.undo());
        due("back", false, () -> x.back());
        int[] counts = {0, 0, 0, 0, 0, 20, 0, 0, 0, 0, 5};
        for (int i = 0; i < counts.length; i++) {
            int what = i;
            due("count " + i, counts[i], () -> x.count(what));
        }
        due("reach", STATE, () -> x.reach(0));
        due("unresolved", STATE, () -> x.unresolved());
        due("paschs", STATE, () -> x.paschs(0));
        due("sorts", STATE, () -> x.sorts());
        due("course", STATE, () -> x.course(9));
        due("lull", STATE, () -> x.lull(0));
        due("leader", STATE, () -> x.leader());
        due("alike", INDEX, () -> x.alike(0, 0));
        due("tally", INDEX, () -> x.tally(0, 9));
        due("heaviest", INDEX, () -> x.heaviest(0, 0, true));
        due("next", INDEX, () -> x.next(0, 99, 0));
        due("better", INDEX, () -> x.better(0, 99, 99));
        due("office", INDEX, () -> x.office(0, 0, 9));
        due("fast", INDEX, () -> x.fast(0, 0));
    }

    private static void promise4() {
        FeastBook x = Texts.told(FOUR);
        due("reach", 20, () -> x.reach(5));
        x.rank(0, 9);
        Texts.feed(x, PLAIN_YEAR + ";fast 1;lift 3;rest 2;season 0 0 1;closed 1 1");
        due("a book in place of the other", 0, () -> x.book());
        due("REACH as at first", 20, () -> x.count(5));
        due("none remembered", 0, () -> x.count(8));
        due("no FEAST", INDEX, () -> x.feast(0, 0));
        Texts.feed(x, TURNING);
        due("a third book", 0, () -> x.book());
        int[] counts = {3, 2, 0, 0, 0, 20, 0, 0, 0, 0, 5};
        for (int i = 0; i < counts.length; i++) {
            int what = i;
            due("nothing of the book before, count " + i, counts[i], () -> x.count(what));
        }
        due("book of an empty tape", ARGUMENT, () -> x.book());
        due("the book stays", 3, () -> x.cycle());
    }

    private static void promise6() {
        FeastBook x = Texts.told(FOUR);
        int[] year = {10, 0, 0, 5, 2, 1, 0, 1, 1, 1, 12};
        for (int i = 0; i < year.length; i++) {
            int what = i;
            due("year what " + i, year[i], () -> x.year(0, what));
            due("year 9999 what " + i, year[i], () -> x.year(9999, what));
        }
        due("year what 11", ELEMENT, () -> x.year(0, 11));
        due("year what -1", ELEMENT, () -> x.year(9999, -1));
        due("year -1", INDEX, () -> x.year(-1, 11));
        due("year 10000", INDEX, () -> x.year(10000, 0));
        FeastBook y = Texts.told("book 7 20 10 leap 3 1 moon 4 5 7 9;fast 1;fast 2;feast 5 on 0 8 drop vigil 1");
        due("leap", 1, () -> y.year(3, 6));
        due("leap days", 31, () -> y.year(3, 0));
        due("no leap", 0, () -> y.year(4, 6));
        due("days", 30, () -> y.year(4, 0));
        due("weekday of YEAR 1", 3, () -> y.year(1, 1));
        due("weekday of YEAR 4", 3, () -> y.year(4, 1));
        due("FULL of YEAR 1", 12, () -> y.year(1, 2));
        due("FULL of YEAR 2", 10, () -> y.year(2, 2));
        due("FULL of YEAR 3", 8, () -> y.year(3, 2));
        due("FULL of YEAR 4", 5, () -> y.year(4, 2));
        due("PASCH of YEAR 1", 18, () -> y.year(1, 3));
        due("FASTS of YEAR 0, without day 8, with the VIGIL on day 6", 10, () -> y.year(0, 7));
        due("FASTS one behind another", 2, () -> y.year(0, 8));
        due("WEEKDAY of the last YEAR", (9999 * 30 + 3333) % 7, () -> y.year(9999, 1));
        FeastBook z = Texts.told("book 3 5 moon 1 0 0 1;rest 9");
        due("PASCH is behind a FULL that is a SUNDAY", 3, () -> z.year(0, 3));
        due("WEIGHT of SUNDAYS", 18, () -> z.year(0, 10));
        due("FREE", 3, () -> z.year(0, 4));
        due("RUN", 2, () -> z.year(0, 5));
    }

    private static void promise7() {
        FeastBook x = Texts.told("book 4 6 7 8 leap 2 1 moon 1 3 0 1;closed -2 0;closed 5 6");
        int[][] days = {{0, 0, 0}, {5, 0, 5}, {6, 1, 0}, {13, 1, 7}, {14, 2, 0}, {21, 2, 7}};
        for (int[] d : days) {
            due("MONTH of " + d[0], d[1], () -> x.day(0, d[0], 0));
            due("day of MONTH of " + d[0], d[2], () -> x.day(0, d[0], 1));
        }
        due("MONTH without LEAP", 2, () -> x.day(1, 13, 0));
        due("day of it without LEAP", 0, () -> x.day(1, 13, 1));
        due("WEEKDAY", 1, () -> x.day(0, 21, 2));
        due("WEEKDAY of the next YEAR", 2, () -> x.day(1, 0, 2));
        due("PASCH", 4, () -> x.year(0, 3));
        int[] closed = {0, 0, 1, 1, 1, 0, 0, 0, 0, 1, 1, 0};
        for (int i = 0; i < closed.length; i++) {
            int day = i;
            due("CLOSED " + i, closed[i], () -> x.day(0, day, 3));
        }
        due("what 4", ELEMENT, () -> x.day(0, 0, 4));
        due("what -1", ELEMENT, () -> x.day(0, 0, -1));
        due("day 22", INDEX, () -> x.day(0, 22, 4));
        due("day 21 without LEAP", INDEX, () -> x.day(1, 21, 0));
        due("day -1", INDEX, () -> x.day(1, -1, 0));
        due("YEAR", INDEX, () -> x.day(10000, 0, 0));
    }

    private static void offices(FeastBook x, int[][] office) {
        for (int d = 0; d < office.length; d++) {
            for (int w = 0; w < 3; w++) {
                int day = d;
                int what = w;
                due("office of " + d + " what " + w, office[d][w], () -> x.office(0, day, what));
            }
        }
    }

    private static void promise8() {
        FeastBook x = Texts.told(FOUR);
        offices(x, new int[][] {{3, 0, -1}, {0, 0, -1}, {4, 3, 1}, {4, 4, 0}, {2, 1, 0}, {2, 1, 0}, {2, 1, 0},
            {2, 1, 0}, {2, 1, 0}, {0, 0, -1}});
        due("what 3", ELEMENT, () -> x.office(0, 0, 3));
        due("what -1", ELEMENT, () -> x.office(0, 0, -1));
        due("day 10", INDEX, () -> x.office(0, 10, 3));
        due("day -1", INDEX, () -> x.office(0, -1, 0));
        due("YEAR -1", INDEX, () -> x.office(-1, 0, 0));
        // The OCTAVE goes to the YEAR's end; of two MOVED the greater one takes the first free day.
        FeastBook y = Texts.told(PLAIN_YEAR + ";feast 9 on 0 6 drop octave 2;feast 3 on 0 6 move;feast 4 on 0 6 move");
        offices(y, new int[][] {{3, 0, -1}, {0, 0, -1}, {0, 0, -1}, {0, 0, -1}, {0, 0, -1}, {3, 0, -1}, {4, 9, 0},
            {4, 4, 2}, {4, 3, 1}, {2, 2, 0}});
        // CLOSED days and those whose BASE has no lesser RANK are passed over.
        FeastBook z = Texts.told(PLAIN_YEAR + ";rest 3;closed -1 -1;feast 9 on 0 3 drop;feast 3 on 0 3 move");
        offices(z, new int[][] {{3, 3, -1}, {0, 0, -1}, {0, 0, -1}, {4, 9, 0}, {0, 0, -1}, {3, 3, -1}, {4, 3, 1}});
        FeastBook left = Texts.told(PLAIN_YEAR + ";reach 1;closed -1 -1;feast 9 on 0 3 drop;feast 3 on 0 3 move");
        due("LEFT", 4, () -> left.of(1, 0, 2));
        due("LEFT has no place", -1, () -> left.of(1, 0, 1));
    }

    private static void promise9() {
        FeastBook x = Texts.told(FOUR);
        int[][] base = {{3, 0, -1}, {0, 0, -1}, {1, 2, 0}, {0, 0, -1}, {2, 1, 0}, {2, 1, 0}, {2, 1, 0}, {2, 1, 0},
            {2, 1, 0}, {0, 0, -1}};
        for (int d = 0; d < base.length; d++) {
            for (int w = 0; w < 3; w++) {
                int day = d;
                int what = w;
                due("base of " + d + " what " + w, base[d][w], () -> x.base(0, day, what));
            }
        }
        due("what 3", ELEMENT, () -> x.base(0, 0, 3));
        due("day 10", INDEX, () -> x.base(0, 10, 3));
        // Like RANKS: SUNDAY, OCTAVE, VIGIL; MOVING ahead of FIXED; the lesser number. The VIGIL leaves the SUNDAY.
        FeastBook y = Texts.told("book 5 20 moon 1 0 0 1;season 3 7 2;season 4 9 4;feast 1 on 0 1 drop octave 2"
            + ";feast 1 on 0 6 drop vigil 2;feast 1 at 0 drop octave 2;feast 1 at 1 drop octave 2;feast 1 on 0 1 drop vigil 9");
        due("OCTAVE above VIGIL", 2, () -> y.base(0, 4, 0));
        due("OCTAVE above SUNDAY of no SEASON", 2, () -> y.base(0, 5, 0));
        due("MOVING", 2, () -> y.base(0, 6, 2));
        due("MOVING and lesser", 2, () -> y.base(0, 7, 2));
        due("SUNDAY of the last SEASON", 4, () -> y.base(0, 10, 1));
        due("SUNDAY above OCTAVE", 3, () -> y.base(0, 10, 0));
        due("SUNDAY without SEASON", 0, () -> y.base(0, 15, 1));
        due("behind the first OCTAVE", 3, () -> y.base(0, 11, 2));
        due("a VIGIL ahead of the YEAR is not", 3, () -> y.base(0, 0, 0));
        FeastBook like = Texts.told(PLAIN_YEAR + ";rest 2;season 1 1 9;feast 1 on 0 3 drop octave 2");
        due("SUNDAY above OCTAVE of like RANK", 3, () -> like.base(0, 5, 0));
        due("RANK of REST", 2, () -> like.base(0, 5, 1));
        FeastBook z = Texts.told(PLAIN_YEAR + ";feast 5 on 0 6 drop vigil 3;feast 5 on 0 1 drop vigil 4");
        due("VIGIL ahead of the SUNDAY", 1, () -> z.base(0, 4, 0));
        due("not on the SUNDAY", 3, () -> z.base(0, 5, 0));
        due("none on the first day", 3, () -> z.base(0, 0, 0));
    }

    private static void promise10() {
        FeastBook x = Texts.told(PLAIN_YEAR + ";fast 0;fast 2;lift 4;feast 3 on 0 2 drop;feast 4 on 0 7 drop vigil 1"
            + ";feast 1 on 0 9 drop;feast 1 on 0 9 drop vigil 2;feast 4 on 0 4 drop vigil 1;feast 5 on 0 3 drop");
        boolean[] fast = {false, false, true, false, false, false, true, false, false, false};
        for (int i = 0; i < fast.length; i++) {
            int day = i;
            due("fast " + i, fast[i], () -> x.fast(0, day));
        }
        due("VIGIL of one that is not KEPT", 1, () -> x.office(0, 8, 0));
        x.rank(5, 3);
        due("a lesser FEAST lifts no VIGIL", true, () -> x.fast(0, 3));
        x.rank(0, 4);
        due("LIFT", false, () -> x.fast(0, 2));
        due("day", INDEX, () -> x.fast(0, 10));
        due("YEAR", INDEX, () -> x.fast(10000, 0));
    }

    private static void promise11() {
        FeastBook x = Texts.told(PLAIN_YEAR + ";feast 1 on 0 2 drop");
        int[] lessons = {-1, 0, -1, 1, 2, -1, 0, 1, 2, 3};
        for (int i = 0; i < lessons.length; i++) {
            int day = i;
            due("lesson " + i, lessons[i], () -> x.lesson(0, day));
        }
        due("day", INDEX, () -> x.lesson(0, -1));
        due("YEAR", INDEX, () -> x.lesson(-1, 0));
    }

    private static void promise12() {
        FeastBook x = Texts.told(PLAIN_YEAR + ";feast 9 on 0 2 drop;feast 1 on 0 2 join;feast 2 on 0 2 join"
            + ";feast 1 at -3 join;feast 1 on 0 2 join");
        due("two are joined", 12, () -> x.joined(0, 2));
        due("the third is DROPPED", 3, () -> x.of(1, 0, 2));
        due("none elsewhere", 0, () -> x.joined(0, 3));
        due("JOINED has no place", -1, () -> x.of(2, 0, 1));
        due("day", INDEX, () -> x.joined(0, 10));
        due("YEAR", INDEX, () -> x.joined(10000, 0));
    }

    private static void promise13() {
        FeastBook x = Texts.told(PLAIN_YEAR + ";feast 4 on 0 3 join vigil 2 octave 1;feast 3 at -2 drop");
        int[][] all = {{4, 0, 0, 3, 2, 2, 1}, {3, 1, -1, -2, 3, 0, 0}};
        for (int f = 0; f < 2; f++) {
            for (int w = 0; w < 7; w++) {
                int feast = f;
                int what = w;
                due("feast " + f + " what " + w, all[f][w], () -> x.feast(feast, what));
            }
        }
        due("what 7", ELEMENT, () -> x.feast(0, 7));
        due("what -1", ELEMENT, () -> x.feast(0, -1));
        due("FEAST 2", INDEX, () -> x.feast(2, 7));
        due("FEAST -1", INDEX, () -> x.feast(-1, 0));
    }

    private static void promise14() {
        FeastBook x = Texts.told(FOUR + ";feast 9 at 5 drop;feast 9 at -6 drop octave 9;feast 1 on 0 8 drop");
        int[][] all = {{3, 3, 0, -1, -1}, {3, 2, 1, 0, 4}, {3, -1, 2, 0, 4}, {3, -1, 3, 0, 4}, {-1, -1, 5, -1, -1},
            {-1, -1, 5, -1, -1}, {8, 8, 0, -1, -1}};
        for (int f = 0; f < all.length; f++) {
            for (int w = 0; w < 5; w++) {
                int feast = f;
                int what = w;
                due("of " + f + " what " + w, all[f][w], () -> x.of(feast, 0, what));
            }
        }
        x.put(6, 0, 2);
        due("to a VIGIL", 1, () -> x.of(6, 0, 4));
        due("to no FEAST", -1, () -> x.of(6, 0, 3));
        due("what 5", ELEMENT, () -> x.of(0, 0, 5));
        due("what -1", ELEMENT, () -> x.of(0, 0, -1));
        due("YEAR", INDEX, () -> x.of(0, 10000, 5));
        due("FEAST", INDEX, () -> x.of(7, 0, 5));
    }

    private static void promises15To19() {
        FeastBook x = Texts.told(FOUR);
        due("rank", 4, () -> x.rank(0, 9));
        due("rank now", 9, () -> x.rank(0, 9));
        due("rank 0", ARGUMENT, () -> x.rank(0, 0));
        due("rank 10", ARGUMENT, () -> x.rank(0, 10));
        due("rank of none", INDEX, () -> x.rank(4, 0));
        due("law", 2, () -> x.law(2, 3));
        due("law now", 3, () -> x.law(2, 0));
        due("MOVED by it", 1, () -> x.of(2, 0, 2));
        due("law 4", ARGUMENT, () -> x.law(0, 4));
        due("law -1", ARGUMENT, () -> x.law(0, -1));
        due("law of none", INDEX, () -> x.law(-1, 4));
        due("remembered", 4, () -> x.count(8));
        due("put", 1, () -> x.put(0, 0, 9));
        due("put again", 0, () -> x.put(0, 0, 9));
        due("its DAY", 9, () -> x.of(0, 0, 0));
        due("put a MOVING one", 1, () -> x.put(1, -1, -99));
        due("put it again", 0, () -> x.put(1, -1, -99));
        due("ABSENT", 5, () -> x.of(1, 0, 2));
        due("put beyond", ARGUMENT, () -> x.put(1, -1, -100));
        due("put beyond, above", ARGUMENT, () -> x.put(1, -1, 100));
        due("put a MOVING one into a MONTH", ARGUMENT, () -> x.put(1, 0, 0));
        due("put a FIXED one into none", ARGUMENT, () -> x.put(0, -1, 0));
        due("put MONTH 1", ARGUMENT, () -> x.put(0, 1, 0));
        due("put MONTH -2", ARGUMENT, () -> x.put(0, -2, 0));
        due("put day 10", ARGUMENT, () -> x.put(0, 0, 10));
        due("put day -1", ARGUMENT, () -> x.put(0, 0, -1));
        due("put none", INDEX, () -> x.put(4, 1, 10));
        due("remembered, eight", 8, () -> x.count(8));
        due("reach", 20, () -> x.reach(60));
        due("reach 0", ARGUMENT, () -> x.reach(0));
        due("reach 61", ARGUMENT, () -> x.reach(61));
        due("remembered, eight at most", 8, () -> x.count(8));
        due("REACH", 60, () -> x.count(5));
        due("undo reach", 7, () -> x.undo());
        due("REACH again", 20, () -> x.count(5));
        due("undo what changed nothing", 6, () -> x.undo());
        due("it is as ahead of that", -99, () -> x.feast(1, 3));
        due("undo put", 5, () -> x.undo());
        due("told again", -2, () -> x.feast(1, 3));
        due("undo put of nothing", 4, () -> x.undo());
        due("undo put of FEAST 0", 3, () -> x.undo());
        due("day of FEAST 0", 3, () -> x.feast(0, 3));
        due("undo law", 2, () -> x.undo());
        due("law again", 3, () -> x.feast(2, 4));
        due("undo the first law", 1, () -> x.undo());
        due("law as told", 2, () -> x.feast(2, 4));
        due("undo the second rank", 0, () -> x.undo());
        due("the first rank is forgotten", STATE, () -> x.undo());
        due("so it stays", 9, () -> x.feast(0, 0));
    }

    private static void promise18And19Edges() {
        FeastBook x = Texts.told("book 4 6 7 leap 2 0 moon 1 0 0 1;feast 5 on 0 5 move;feast 5 at 0 move");
        due("put the day that LEAP gives", ARGUMENT, () -> x.put(0, 0, 6));
        due("put into another MONTH", 1, () -> x.put(0, 1, 6));
        due("DAY in a LEAP YEAR", 13, () -> x.of(0, 0, 0));
        due("DAY in another YEAR", 12, () -> x.of(0, 1, 0));
        due("undo", 0, () -> x.undo());
        due("MONTH again", 0, () -> x.feast(0, 2));
        due("day again", 5, () -> x.feast(0, 3));
        x.rank(0, 6);
        due("the order changes", true, () -> x.beats(0, 1));
        x.undo();
        due("and changes back", false, () -> x.beats(0, 1));
        due("reach -1", ARGUMENT, () -> x.reach(LOW));
        due("reach 1", 20, () -> x.reach(1));
        due("reach now", 1, () -> x.reach(2));
    }

    private static void promise20() {
        String[] texts = {PLAIN_YEAR, TURNING, "book 7 10 10 leap 2 0 moon 2 3 4 5", "book 9 31 leap 9 0 moon 19 0 1 5",
            "book 8 10 leap 4 0 moon 6 0 0 1", "book 4 10 moon 1 0 0 1", "book 7 14 moon 19 0 0 1"};
        int[] cycles = {1, 3, 14, 1539, 96, 2, 19};
        for (int i = 0; i < texts.length; i++) {
            FeastBook x = Texts.told(texts[i]);
            due("cycle of " + texts[i], cycles[i], () -> x.cycle());
        }
    }

    // FEAST 0 is on day 3: KEPT on the SUNDAY of YEAR 0, KEPT in 1; in YEAR 2 the VIGIL is there, and it goes to 4.
    private static final String TURN = TURNING + ";rest 3;feast 5 on 0 3 move;feast 4 at 0 move;feast 2 on 1 0 join"
        + ";feast 9 on 1 0 drop vigil 6 octave 3;feast 1 at 2 back";

    private static void promises21To24() {
        FeastBook x = Texts.told(TURN);
        due("fates KEPT", 2, () -> x.fates(0, 0, false));
        due("first KEPT", 0, () -> x.fates(0, 0, true));
        due("fates MOVED", 1, () -> x.fates(0, 1, false));
        due("first MOVED", 2, () -> x.fates(0, 1, true));
        due("no LEFT", 0, () -> x.fates(0, 4, false));
        due("no first LEFT", -1, () -> x.fates(0, 4, true));
        due("fate 6", ARGUMENT, () -> x.fates(0, 6, true));
        due("fate -1", ARGUMENT, () -> x.fates(0, -1, false));
        due("FEAST 5", INDEX, () -> x.fates(5, 6, false));
        due("far", 1, () -> x.far(0));
        due("far back", 3, () -> x.far(4));
        due("not far", 0, () -> x.far(3));
        due("far of none", INDEX, () -> x.far(5));
        due("span least", 3, () -> x.span(0, false));
        due("span most", 4, () -> x.span(0, true));
        due("span of a JOINED one", -1, () -> x.span(2, true));
        due("least span of a JOINED one", -1, () -> x.span(2, false));
        due("span of none", INDEX, () -> x.span(-1, true));
        due("meets", 18, () -> x.meets(0));
        due("meets 3", 20, () -> x.meets(3));
        due("meets of none", INDEX, () -> x.meets(5));
        FeastBook y = Texts.told(PLAIN_YEAR + ";feast 1 at 60 drop;feast 1 at 61 drop;feast 2 at 60 drop");
        due("ABSENT ones meet none", 0, () -> y.meets(0));
        due("ABSENT", 1, () -> y.fates(0, 5, false));
        due("ABSENT ones have no span", -1, () -> y.span(0, false));
        due("ABSENT ones meet nowhere in a YEAR", 0, () -> y.year(0, 9));
        due("ABSENT ones yield to none", 0, () -> y.yields(0, 2));
    }

    private static void promises25To27() {
        FeastBook x = Texts.told(PLAIN_YEAR + ";feast 5 on 0 3 move;feast 5 on 0 2 move;feast 5 at 1 move;feast 6 on 0 1 move");
        due("lesser number", true, () -> x.beats(0, 1));
        due("greater number", false, () -> x.beats(1, 0));
        due("MOVING", true, () -> x.beats(2, 0));
        due("RANK", true, () -> x.beats(3, 2));
        due("one", ARGUMENT, () -> x.beats(1, 1));
        due("none", INDEX, () -> x.beats(4, 4));
        due("other none", INDEX, () -> x.beats(0, -1));
        FeastBook y = Texts.told(TURN);
        due("safe above a VIGIL", 6, () -> y.safe(0));
        due("safe above a FIXED one of a lesser number", 3, () -> y.safe(3));
        due("safe with RANK 9, by number", 9, () -> y.safe(2));
        due("safe with RANK 9, as MOVING", 9, () -> y.safe(4));
        due("safe of none", INDEX, () -> y.safe(5));
        FeastBook z = Texts.told(PLAIN_YEAR + ";rest 9;feast 9 at -2 drop;feast 1 on 0 3 drop;feast 1 at 70 drop"
            + ";feast 1 on 0 8 drop;feast 1 on 0 0 drop");
        due("never safe", -1, () -> z.safe(1));
        due("safe where it never is", 1, () -> z.safe(2));
        due("safe alone", 1, () -> z.safe(3));
        due("safe on a SUNDAY", 9, () -> z.safe(4));
        due("the RANK stays", 1, () -> z.feast(4, 0));
        due("next", 0, () -> y.next(0, 0, 0));
        due("next later", 2, () -> y.next(0, 0, 1));
        due("next WEEKDAY 2", 2 + 2, () -> y.next(0, 1, 2));
        due("next never", -1, () -> y.next(0, 2, 0));
        due("next of a JOINED one", -1, () -> y.next(2, 0, 0));
        due("next in the last YEAR", 9999, () -> y.next(0, 0, 9999));
        due("next beyond the last YEAR", -1, () -> y.next(0, 1, 9999));
        due("next WEEKDAY 3", ARGUMENT, () -> y.next(0, 3, 0));
        due("next WEEKDAY -1", ARGUMENT, () -> y.next(0, -1, 0));
        due("next YEAR", INDEX, () -> y.next(0, 3, 10000));
        due("next FEAST", INDEX, () -> y.next(5, 3, 0));
    }

    private static void promises28To33() {
        FeastBook x = Texts.told(TURN);
        due("all resolves", -1, () -> x.unresolved());
        x.reach(2);
        due("FEAST 1 is LEFT in YEAR 0", 0, () -> x.unresolved());
        x.law(1, 3);
        due("FEAST 4 is LEFT in YEAR 0", 0, () -> x.unresolved());
        due("paschs", 1, () -> x.paschs(1));
        due("paschs of none", 0, () -> x.paschs(0));
        due("paschs of no day", 0, () -> x.paschs(HIGH));
        due("paschs below", 0, () -> x.paschs(LOW));
        due("alike", true, () -> x.alike(0, 9999));
        due("not alike", false, () -> x.alike(1, 9999));
        due("alike itself", true, () -> x.alike(1, 1));
        due("alike YEAR", INDEX, () -> x.alike(0, 10000));
        due("alike first YEAR", INDEX, () -> x.alike(-1, 0));
        due("sorts", 3, () -> x.sorts());
        FeastBook y = Texts.told("book 7 10 10 leap 2 0 moon 2 3 4 5");
        due("sorts of length and PASCH", 14, () -> y.sorts());
        due("alike in all but length", false, () -> y.alike(0, 1));
        FeastBook z = Texts.told(TURN);
        due("yields", 1, () -> z.yields(1, 0));
        due("yields each YEAR", 3, () -> z.yields(2, 3));
        due("yields to no FEAST", 0, () -> z.yields(0, 3));
        due("yields never", 0, () -> z.yields(3, 2));
        due("yields to itself", ARGUMENT, () -> z.yields(1, 1));
        due("yields of none", INDEX, () -> z.yields(5, 5));
        due("yields to none", INDEX, () -> z.yields(0, 5));
        int[] course = {1, 1, 0, 1};
        for (int i = 0; i < 4; i++) {
            int what = i;
            due("course " + i, course[i], () -> z.course(what));
        }
        due("course 4", ELEMENT, () -> z.course(4));
        due("course -1", ELEMENT, () -> z.course(-1));
    }

    private static void promises34To36() {
        FeastBook x = Texts.told(FOUR);
        due("heaviest day", 3, () -> x.heaviest(0, 1, false));
        due("its WEIGHT", 4, () -> x.heaviest(0, 1, true));
        due("heaviest two", 2, () -> x.heaviest(0, 2, false));
        due("their WEIGHT", 7, () -> x.heaviest(0, 2, true));
        due("heaviest of several", 2, () -> x.heaviest(0, 7, false));
        due("all days", 0, () -> x.heaviest(0, 10, false));
        due("all WEIGHT", 12, () -> x.heaviest(0, 10, true));
        due("a shorter YEAR", -1, () -> x.heaviest(0, 11, false));
        due("no WEIGHT", -1, () -> x.heaviest(0, 60, true));
        due("n 0", ARGUMENT, () -> x.heaviest(0, 0, true));
        due("n 61", ARGUMENT, () -> x.heaviest(0, 61, true));
        due("YEAR", INDEX, () -> x.heaviest(10000, 61, true));
        FeastBook y = Texts.told(TURN);
        due("interval least", 9, () -> y.interval(0, false));
        due("interval most", 11, () -> y.interval(0, true));
        due("no interval", -1, () -> y.interval(2, false));
        due("interval of none", INDEX, () -> y.interval(5, true));
        due("interval with one YEAR", 10, () -> x.interval(0, true));
        FeastBook leap = Texts.told("book 5 10 leap 2 0 moon 1 0 0 1;feast 1 on 0 2 move");
        due("interval over a LEAP YEAR", 11, () -> leap.interval(0, true));
        due("interval over another", 10, () -> leap.interval(0, false));
        int[] order = {3, 0, 1, 2, 4};
        for (int i = 0; i < order.length; i++) {
            int k = i;
            due("order " + i, order[i], () -> y.order(k));
        }
        due("order 5", -1, () -> y.order(5));
        due("order -1", -1, () -> y.order(-1));
        due("order above", -1, () -> y.order(HIGH));
    }

    private static void promise37() {
        FeastBook x = Texts.told(TURN);
        due("better", 2, () -> x.better(0, 1, 0));
        due("in so many YEARS", 3, () -> x.better(0, 1, 1));
        due("better of itself", 3, () -> x.better(0, 0, 0));
        due("in its YEARS", 2, () -> x.better(0, 0, 1));
        due("nothing is changed", 3, () -> x.feast(0, 3));
        due("nothing is remembered", 0, () -> x.count(8));
        due("already the best", 0, () -> x.better(3, 5, 0));
        due("n 6", ARGUMENT, () -> x.better(0, 6, 0));
        due("n -1", ARGUMENT, () -> x.better(0, -1, 0));
        due("what 2", ELEMENT, () -> x.better(0, 6, 2));
        due("what -1", ELEMENT, () -> x.better(0, 6, -1));
        due("FEAST", INDEX, () -> x.better(5, 6, 2));
        FeastBook y = Texts.told(PLAIN_YEAR + ";feast 9 on 0 9 drop;feast 1 on 0 9 drop;feast 8 at 99 drop;feast 1 at 4 drop"
            + ";feast 1 at -8 drop;feast 7 on 0 4 drop;feast 1 on 0 4 drop");
        due("in its MONTH", 8, () -> y.better(1, 5, 0));
        due("no better one", 99, () -> y.better(2, 5, 0));
        due("in no YEAR", 0, () -> y.better(2, 5, 1));
        due("the lesser of two", 3, () -> y.better(6, 1, 0));
        due("from where it is ABSENT", -5, () -> y.better(4, 3, 0));
        due("then in each YEAR", 1, () -> y.better(4, 3, 1));
        due("a MOVING one, within the YEAR", 3, () -> y.better(3, 2, 0));
        // Its own OCTAVE moves with it and never hinders it.
        FeastBook z = Texts.told(PLAIN_YEAR + ";feast 9 on 0 2 drop;feast 1 on 0 2 drop vigil 9 octave 9");
        due("the own VIGIL moves, too", 1, () -> z.better(1, 1, 0));
        due("and so it is KEPT", 1, () -> z.better(1, 1, 1));
    }

    private static void promises38To41() {
        FeastBook x = Texts.told(TURN);
        due("rival", 0, () -> x.rival(1));
        due("rival of each YEAR", 3, () -> x.rival(2));
        due("no rival", -1, () -> x.rival(3));
        due("a VIGIL is no rival", -1, () -> x.rival(0));
        due("rival of none", INDEX, () -> x.rival(5));
        due("lull", 0, () -> x.lull(1));
        due("no lull", -1, () -> x.lull(2));
        due("lull 0", ARGUMENT, () -> x.lull(0));
        due("lull 61", ARGUMENT, () -> x.lull(61));
        due("lull 60", -1, () -> x.lull(60));
        FeastBook y = Texts.told("book 9 31 31 31 moon 1 0 0 1");
        due("RUN is less than WEEK", 0, () -> y.lull(8));
        due("so none is of WEEK days", -1, () -> y.lull(9));
        int[] tally = {2, 2, 1, 0, 0, 0};
        for (int i = 0; i < tally.length; i++) {
            int fate = i;
            due("tally " + i, tally[i], () -> x.tally(0, fate));
        }
        due("tally 6", ARGUMENT, () -> x.tally(0, 6));
        due("tally -1", ARGUMENT, () -> x.tally(0, -1));
        due("tally YEAR", INDEX, () -> x.tally(-1, 6));
        due("leader", 3, () -> x.leader());
        x.rank(0, 9);
        due("leader, the least", 0, () -> x.leader());
        FeastBook z = Texts.told(PLAIN_YEAR);
        due("no leader", -1, () -> z.leader());
        FeastBook none = Texts.told(PLAIN_YEAR + ";rest 9;feast 1 at 0 drop;feast 1 at 0 drop");
        due("leader without a KEPT one", 0, () -> none.leader());
    }

    private static void promises42And43() {
        FeastBook x = new FeastBook();
        due("back without", false, () -> x.back());
        x.image();
        Texts.feed(x, FOUR);
        x.book();
        due("back to no BOOK", true, () -> x.back());
        due("no BOOK", STATE, () -> x.cycle());
        due("no FEASTS", 0, () -> x.count(2));
        due("no YEARS", INDEX, () -> x.year(0, 0));
        Texts.feed(x, FOUR);
        x.book();
        x.rank(0, 8);
        x.reach(3);
        x.image();
        due("an image forgets nothing", 2, () -> x.count(8));
        x.rank(0, 1);
        x.put(1, -1, 3);
        x.law(1, 3);
        x.reach(9);
        Texts.feed(x, TURNING + ";fast 1");
        x.book();
        Texts.feed(x, "x");
        due("wrong text", ARGUMENT, () -> x.book());
        x.feed(0, 0, 0, 0, 0);
        due("back", true, () -> x.back());
        due("RANK of the image", 8, () -> x.feast(0, 0));
        due("REACH of the image", 3, () -> x.count(5));
        due("day of the image", -2, () -> x.feast(1, 3));
        due("LAW of the image", 1, () -> x.feast(1, 4));
        due("WEEK of the image", 5, () -> x.count(0));
        due("FASTING of the image", 0, () -> x.count(9));
        due("CYCLE of the image", 1, () -> x.cycle());
        due("office of the image", 8, () -> x.office(0, 3, 1));
        due("none remembered", STATE, () -> x.undo());
        due("fault stays", 0, () -> x.fault());
        due("TAPE stays", true, () -> x.end(20));
        x.rank(0, 2);
        due("back again", true, () -> x.back());
        due("RANK of the image again", 8, () -> x.feast(0, 0));
    }

    private static void promise44() {
        FeastBook x = Texts.told("book 6 9 8 7 leap 3 1 moon 1 0 0 1;reach 33;rest 4;lift 7;fast 0;fast 5;season 0 0 1"
            + ";season 0 0 1;closed 1 2;feast 1 at 0 drop");
        int[] counts = {6, 3, 1, 2, 1, 33, 4, 3, 0, 33, 7};
        for (int i = 0; i < counts.length; i++) {
            int what = i;
            due("count " + i, counts[i], () -> x.count(what));
        }
        x.rank(0, 1);
        due("remembered", 1, () -> x.count(8));
        due("count 11", -1, () -> x.count(11));
        due("count -1", -1, () -> x.count(-1));
        due("count below", -1, () -> x.count(LOW));
    }

    private static void undoOverMonths() {
        FeastBook x = Texts.told("book 3 5 6 7 moon 1 0 0 1;feast 5 on 0 4 move");
        int[][] days = {{1, 5}, {2, 6}, {0, 0}, {1, 1}, {2, 2}, {0, 3}, {1, 4}, {2, 5}, {0, 2}, {1, 3}};
        for (int[] d : days) {
            due("put " + d[0] + " " + d[1], 1, () -> x.put(0, d[0], d[1]));
        }
        for (int i = days.length - 2; i >= 1; i--) {
            int[] d = days[i];
            int left = i - 1;
            due("undo to " + d[0] + " " + d[1], left, () -> x.undo());
            due("MONTH", d[0], () -> x.feast(0, 2));
            due("day", d[1], () -> x.feast(0, 3));
        }
        due("eight alone", STATE, () -> x.undo());
    }

    private static void fullest() {
        FeastBook x = Texts.told("book 9 31 31 31 31 31 31 31 31 leap 9 7 moon 19 99 30 30;rest 1;feast 2 on 7 30 move");
        due("days", 249, () -> x.year(0, 0));
        due("MONTH of the last day", 7, () -> x.day(0, 248, 0));
        due("day of it", 31, () -> x.day(0, 248, 1));
        due("office of the last day", 0, () -> x.office(0, 248, 0));
        due("the FEAST ahead of it", 0, () -> x.office(0, 247, 2));
        due("lesson of the last day", -1, () -> x.lesson(0, 247));
        due("heaviest sixty", 0, () -> x.heaviest(0, 60, false) < 0 ? 1 : 0);
        due("not one day more", INDEX, () -> x.day(0, 249, 0));
        due("not in the next YEAR", INDEX, () -> x.day(1, 248, 0));
        due("KEPT in all YEARS", 1539, () -> x.fates(0, 0, false));
        // Twelve FEASTS on a SUNDAY that is greater: two are JOINED, the last ones are DROPPED.
        StringBuilder text = new StringBuilder(PLAIN_YEAR + ";rest 9");
        for (int i = 0; i < 12; i++) {
            text.append(";feast 1 at 0 join");
        }
        FeastBook y = Texts.told(text.toString());
        due("JOINED to the SUNDAY", 3, () -> y.joined(0, 5));
        due("the last one is DROPPED", 3, () -> y.of(11, 0, 2));
        due("it yielded to no FEAST", -1, () -> y.of(11, 0, 3));
        due("it yielded to the SUNDAY", 3, () -> y.of(11, 0, 4));
        due("DROPPED ones", 10, () -> y.tally(0, 3));
        due("all meet", 2047, () -> y.meets(11));
        due("one MEETING", 1, () -> y.year(0, 9));
        due("none is a rival", -1, () -> y.rival(11));
        due("the last in order", 11, () -> y.order(11));
    }

    private static void edgesOfYears() {
        FeastBook x = Texts.told("book 4 5 moon 1 0 0 1;fast 1;fast 2;fast 3");
        due("WEEKDAY at first", 1, () -> x.year(1, 1));
        due("FASTS", 4, () -> x.year(1, 7));
        due("FASTS from the first day on", 3, () -> x.year(1, 8));
        FeastBook y = Texts.told("book 3 6 moon 1 0 0 1;feast 1 on 0 1 drop;feast 1 on 0 2 drop;feast 1 on 0 4 drop"
            + ";feast 1 on 0 5 drop");
        due("nothing FREE", 0, () -> y.year(0, 4));
        due("no RUN", 0, () -> y.year(0, 5));
        due("no lull", -1, () -> y.lull(1));
        due("no LESSONS", 0, () -> y.course(1));
        due("no FASTS", 0, () -> y.year(0, 8));
        FeastBook z = Texts.told(PLAIN_YEAR + ";feast 1 at 0 drop;feast 9 at 0 drop;feast 9 at -1 drop;feast 9 at -2 drop"
            + ";feast 9 at -3 drop;feast 9 at -4 drop;feast 9 at 1 drop;feast 9 at 2 drop;feast 9 at 3 drop;feast 9 at 4 drop");
        due("better, five ahead", -5, () -> z.better(0, 5, 0));
        due("KEPT there", 1, () -> z.better(0, 5, 1));
        due("not four ahead", 0, () -> z.better(0, 4, 0));
        due("KEPT nowhere", 0, () -> z.better(0, 4, 1));
        due("put to 99", 1, () -> z.put(0, -1, 99));
        due("put to -99", 1, () -> z.put(0, -1, -99));
    }

    private static void throwsChangeNothing() {
        FeastBook x = Texts.told(FOUR);
        due("rank", ARGUMENT, () -> x.rank(0, 10));
        due("law", ARGUMENT, () -> x.law(0, 10));
        due("put", ARGUMENT, () -> x.put(0, 0, 10));
        due("reach", ARGUMENT, () -> x.reach(99));
        due("nothing to take back", STATE, () -> x.undo());
        due("REACH", 20, () -> x.count(5));
        due("RANK", 4, () -> x.feast(0, 0));
        due("all is as it was", 12, () -> x.year(0, 10));
    }

    public static void main(String[] args) {
        promise1();
        promise4();
        promise6();
        promise7();
        promise8();
        promise9();
        promise10();
        promise11();
        promise12();
        promise13();
        promise14();
        promises15To19();
        promise18And19Edges();
        promise20();
        promises21To24();
        promises25To27();
        promises28To33();
        promises34To36();
        promise37();
        promises38To41();
        promises42And43();
        promise44();
        undoOverMonths();
        fullest();
        edgesOfYears();
        throwsChangeNothing();
        CHECK.finish();
    }
}
