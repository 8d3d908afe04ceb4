import java.util.NoSuchElementException;

/**
 * Promise by promise: each argument at the last value that is taken and the first one that is refused on either side,
 * which exception comes first, and the edges of what is answered.
 * PLAIN_YEAR has ten days, WEEK 5: SUNDAYS are 0 and 5, PASCH is 5, all YEARS are alike.
 * In TURNING SUNDAYS are 0 3 6 9, 2 5 8, 1 4 7 in YEARS 0, 1, 2, and PASCH is 3, 2, 1.
 */
public final class PromiseBoundsTest {
    private static final Check CHECK = new Check("PromiseBoundsTest");
    private static final Class<?> INDEX = IndexOutOfBoundsException.class;
    private static final Class<?> ARGUMENT = IllegalArgumentException.class;
    private static final Class<?> STATE = IllegalStateException.class;
    private static final Class<?> ELEMENT = NoSuchElementException.class;
    private static final int LOW = Integer.MIN_VALUE;
    private static final int HIGH = Integer.MAX_VALUE;
    private static final String PLAIN_YEAR = "book 5 10 moon 1 0 0 1";
    private static final String TURNING = "book 3 5 5 moon 1 0 0 1";
    private static final String TWO = PLAIN_YEAR + ";feast 4 on 0 3 move;feast 3 at -2 back";

    private interface Asked {
        Object of(FeastBook x, int n);
    }

    private static void due(String what, Object want, Check.Call call) {
        CHECK.due(what, want, call);
    }

    private static void taken(String what, Check.Call call) {
        due(what + " is taken", true, () -> {
            call.run();
            return true;
        });
    }

    /** From low to high it is taken, anything else is refused by that exception; each call on an object of its own. */
    private static void bounds(String what, String text, int low, int high, Class<?> refusal, Asked asked) {
        taken(what + " " + low, () -> asked.of(Texts.told(text), low));
        taken(what + " " + high, () -> asked.of(Texts.told(text), high));
        int[] refused = {low - 1, high + 1, LOW, HIGH, LOW + 1, 1 << 16, -(1 << 16)};
        for (int n : refused) {
            due(what + " " + n, refusal, () -> asked.of(Texts.told(text), n));
        }
    }

    private static void whats() {
        bounds("year what", TWO, 0, 10, ELEMENT, (x, n) -> x.year(0, n));
        bounds("day what", TWO, 0, 3, ELEMENT, (x, n) -> x.day(0, 0, n));
        bounds("office what", TWO, 0, 2, ELEMENT, (x, n) -> x.office(0, 0, n));
        bounds("base what", TWO, 0, 2, ELEMENT, (x, n) -> x.base(0, 0, n));
        bounds("feast what", TWO, 0, 6, ELEMENT, (x, n) -> x.feast(0, n));
        bounds("of what", TWO, 0, 4, ELEMENT, (x, n) -> x.of(0, 0, n));
        bounds("course what", TWO, 0, 3, ELEMENT, (x, n) -> x.course(n));
        bounds("better what", TWO, 0, 1, ELEMENT, (x, n) -> x.better(0, 0, n));
        FeastBook x = Texts.told(TWO);
        int[] others = {-1, 11, LOW, HIGH};
        for (int what : others) {
            due("count what " + what, -1, () -> x.count(what));
        }
        due("count what 0", 5, () -> x.count(0));
        due("count what 10", 5, () -> x.count(10));
    }

    private static void years() {
        bounds("year", TWO, 0, 9999, INDEX, (x, n) -> x.year(n, 10));
        bounds("day year", TWO, 0, 9999, INDEX, (x, n) -> x.day(n, 0, 0));
        bounds("office year", TWO, 0, 9999, INDEX, (x, n) -> x.office(n, 0, 0));
        bounds("base year", TWO, 0, 9999, INDEX, (x, n) -> x.base(n, 0, 0));
        bounds("fast year", TWO, 0, 9999, INDEX, (x, n) -> x.fast(n, 0));
        bounds("lesson year", TWO, 0, 9999, INDEX, (x, n) -> x.lesson(n, 0));
        bounds("joined year", TWO, 0, 9999, INDEX, (x, n) -> x.joined(n, 0));
        bounds("of year", TWO, 0, 9999, INDEX, (x, n) -> x.of(0, n, 0));
        bounds("next year", TWO, 0, 9999, INDEX, (x, n) -> x.next(0, 0, n));
        bounds("alike year", TWO, 0, 9999, INDEX, (x, n) -> x.alike(n, 0));
        bounds("alike other", TWO, 0, 9999, INDEX, (x, n) -> x.alike(0, n));
        bounds("heaviest year", TWO, 0, 9999, INDEX, (x, n) -> x.heaviest(n, 1, false));
        bounds("tally year", TWO, 0, 9999, INDEX, (x, n) -> x.tally(n, 0));
    }

    private static void days() {
        String leap = "book 5 5 5 leap 9 1 moon 1 0 0 1";
        for (int year = 0; year < 2; year++) {
            int y = year;
            int last = year == 0 ? 10 : 9;
            bounds("day of " + y, leap, 0, last, INDEX, (x, n) -> x.day(y, n, 0));
            bounds("office day of " + y, leap, 0, last, INDEX, (x, n) -> x.office(y, n, 0));
            bounds("base day of " + y, leap, 0, last, INDEX, (x, n) -> x.base(y, n, 0));
            bounds("fast day of " + y, leap, 0, last, INDEX, (x, n) -> x.fast(y, n));
            bounds("lesson day of " + y, leap, 0, last, INDEX, (x, n) -> x.lesson(y, n));
            bounds("joined day of " + y, leap, 0, last, INDEX, (x, n) -> x.joined(y, n));
        }
        bounds("the last day of the longest YEAR", "book 9 31 31 31 31 31 31 31 31 leap 9 7 moon 1 99 0 1", 0, 248, INDEX,
            (x, n) -> x.office(9999, n, 0));
    }

    private static void oneFeast(String text, int last) {
        bounds("feast", text, 0, last, INDEX, (x, n) -> x.feast(n, 0));
        bounds("of feast", text, 0, last, INDEX, (x, n) -> x.of(n, 0, 0));
        bounds("rank feast", text, 0, last, INDEX, (x, n) -> x.rank(n, 1));
        bounds("law feast", text, 0, last, INDEX, (x, n) -> x.law(n, 0));
        bounds("put feast", text, 0, last, INDEX, (x, n) -> x.put(n, -1, 0));
        bounds("fates feast", text, 0, last, INDEX, (x, n) -> x.fates(n, 0, true));
        bounds("far feast", text, 0, last, INDEX, (x, n) -> x.far(n));
        bounds("span feast", text, 0, last, INDEX, (x, n) -> x.span(n, true));
        bounds("meets feast", text, 0, last, INDEX, (x, n) -> x.meets(n));
        bounds("safe feast", text, 0, last, INDEX, (x, n) -> x.safe(n));
        bounds("next feast", text, 0, last, INDEX, (x, n) -> x.next(n, 0, 0));
        bounds("interval feast", text, 0, last, INDEX, (x, n) -> x.interval(n, true));
        bounds("better feast", text, 0, last, INDEX, (x, n) -> x.better(n, 5, 0));
        bounds("rival feast", text, 0, last, INDEX, (x, n) -> x.rival(n));
    }

    private static void twoFeasts(String text, int last) {
        bounds("beats feast", text + ";feast 9 at 0 drop", 0, last, INDEX, (x, n) -> x.beats(n, n == last + 1 ? 99 : last + 1));
        bounds("beats other", text + ";feast 9 at 0 drop", 0, last, INDEX, (x, n) -> x.beats(n == last + 1 ? 99 : last + 1, n));
        bounds("yields feast", text + ";feast 9 at 0 drop", 0, last, INDEX, (x, n) -> x.yields(n, n == last + 1 ? 99 : last + 1));
        bounds("yields other", text + ";feast 9 at 0 drop", 0, last, INDEX, (x, n) -> x.yields(n == last + 1 ? 99 : last + 1, n));
    }

    private static void feasts() {
        oneFeast(PLAIN_YEAR + ";feast 5 at 0 drop", 0);
        oneFeast(PLAIN_YEAR + ";feast 5 at 1 move".repeat(5), 4);
        twoFeasts(PLAIN_YEAR + ";feast 5 at 0 drop", 0);
        twoFeasts(PLAIN_YEAR + ";feast 5 at 1 move".repeat(11), 10);
        String full = PLAIN_YEAR + ";feast 5 at 1 move".repeat(12);
        oneFeast(full, 11);
        FeastBook x = Texts.told(PLAIN_YEAR);
        due("no FEASTS", INDEX, () -> x.feast(0, 0));
        due("no FEASTS, of", INDEX, () -> x.of(0, 0, 0));
        due("no FEASTS, far", INDEX, () -> x.far(0));
        due("no FEASTS, order", -1, () -> x.order(0));
        due("no FEASTS, leader", -1, () -> x.leader());
        due("no FEASTS, unresolved", -1, () -> x.unresolved());
        due("no FEASTS, tally", 0, () -> x.tally(0, 0));
        due("no FEASTS, MEETINGS", 0, () -> x.year(0, 9));
    }

    private static void numbers() {
        bounds("rank", TWO, 1, 9, ARGUMENT, (x, n) -> x.rank(0, n));
        bounds("law", TWO, 0, 3, ARGUMENT, (x, n) -> x.law(0, n));
        bounds("reach", TWO, 1, 60, ARGUMENT, (x, n) -> x.reach(n));
        bounds("fates fate", TWO, 0, 5, ARGUMENT, (x, n) -> x.fates(0, n, false));
        bounds("fates fate, the first", TWO, 0, 5, ARGUMENT, (x, n) -> x.fates(0, n, true));
        bounds("tally fate", TWO, 0, 5, ARGUMENT, (x, n) -> x.tally(0, n));
        bounds("next weekday of five", TWO, 0, 4, ARGUMENT, (x, n) -> x.next(0, n, 0));
        bounds("next weekday of three", TURNING + ";feast 1 at 0 drop", 0, 2, ARGUMENT, (x, n) -> x.next(0, n, 0));
        bounds("next weekday of nine", "book 9 31 moon 1 0 0 1;feast 1 at 0 drop", 0, 8, ARGUMENT, (x, n) -> x.next(0, n, 0));
        bounds("heaviest n", TWO, 1, 60, ARGUMENT, (x, n) -> x.heaviest(0, n, false));
        bounds("heaviest n, WEIGHT", TWO, 1, 60, ARGUMENT, (x, n) -> x.heaviest(0, n, true));
        bounds("lull n", TWO, 1, 60, ARGUMENT, (x, n) -> x.lull(n));
        bounds("better n", TWO, 0, 5, ARGUMENT, (x, n) -> x.better(0, n, 0));
        bounds("better n, how many", TWO, 0, 5, ARGUMENT, (x, n) -> x.better(1, n, 1));
        bounds("put day of a FIXED one", TWO, 0, 9, ARGUMENT, (x, n) -> x.put(0, 0, n));
        bounds("put day of a MOVING one", TWO, -99, 99, ARGUMENT, (x, n) -> x.put(1, -1, n));
        bounds("put month of a FIXED one", TWO, 0, 0, ARGUMENT, (x, n) -> x.put(0, n, 0));
        bounds("put month of a MOVING one", TWO, -1, -1, ARGUMENT, (x, n) -> x.put(1, n, 0));
        String eight = "book 9 5 6 7 8 9 10 11 31 leap 2 7 moon 1 0 0 1;feast 1 on 3 3 drop";
        bounds("put month of eight", eight, 0, 7, ARGUMENT, (x, n) -> x.put(0, n, 4));
        bounds("put day of 31, without LEAP", eight, 0, 30, ARGUMENT, (x, n) -> x.put(0, 7, n));
        bounds("put day of 5", eight, 0, 4, ARGUMENT, (x, n) -> x.put(0, 0, n));
        due("beats itself", ARGUMENT, () -> Texts.told(TWO).beats(0, 0));
        due("yields to itself", ARGUMENT, () -> Texts.told(TWO).yields(1, 1));
    }

    /** Of several exceptions the one told first is thrown. */
    private static void whichComesFirst() {
        FeastBook x = Texts.told(TWO);
        due("year", INDEX, () -> x.year(10000, 11));
        due("day", INDEX, () -> x.day(10000, 0, 4));
        due("day of a YEAR", INDEX, () -> x.day(0, 10, 4));
        due("office", INDEX, () -> x.office(0, 10, 3));
        due("office, year", INDEX, () -> x.office(-1, 0, 3));
        due("base", INDEX, () -> x.base(0, -1, 3));
        due("base, year", INDEX, () -> x.base(10000, 0, -1));
        due("feast", INDEX, () -> x.feast(2, 7));
        due("of, feast", INDEX, () -> x.of(2, 0, 5));
        due("of, year", INDEX, () -> x.of(0, 10000, 5));
        due("rank", INDEX, () -> x.rank(2, 10));
        due("law", INDEX, () -> x.law(2, 4));
        due("put", INDEX, () -> x.put(2, 9, 99));
        due("fates", INDEX, () -> x.fates(2, 6, true));
        due("beats, both are one that is none", INDEX, () -> x.beats(2, 2));
        due("next, feast", INDEX, () -> x.next(2, 5, 0));
        due("next, year", INDEX, () -> x.next(0, 5, 10000));
        due("yields, both are one that is none", INDEX, () -> x.yields(-1, -1));
        due("heaviest", INDEX, () -> x.heaviest(10000, 0, true));
        due("better, all", INDEX, () -> x.better(2, 6, 2));
        due("better, what and n", ELEMENT, () -> x.better(0, 6, 2));
        due("tally", INDEX, () -> x.tally(10000, 6));
        FeastBook none = new FeastBook();
        due("reach without a BOOK", STATE, () -> none.reach(0));
        due("course without a BOOK", STATE, () -> none.course(4));
        due("lull without a BOOK", STATE, () -> none.lull(0));
    }

    /** Without a BOOK there are no FEASTS, no YEARS; IllegalStateException: there is no BOOK. */
    private static void noBook(String when, FeastBook x) {
        due(when + "year", INDEX, () -> x.year(0, 0));
        due(when + "day", INDEX, () -> x.day(0, 0, 0));
        due(when + "office", INDEX, () -> x.office(0, 0, 0));
        due(when + "base", INDEX, () -> x.base(0, 0, 0));
        due(when + "fast", INDEX, () -> x.fast(0, 0));
        due(when + "lesson", INDEX, () -> x.lesson(0, 0));
        due(when + "joined", INDEX, () -> x.joined(0, 0));
        due(when + "feast", INDEX, () -> x.feast(0, 0));
        due(when + "of", INDEX, () -> x.of(0, 0, 0));
        due(when + "rank", INDEX, () -> x.rank(0, 1));
        due(when + "law", INDEX, () -> x.law(0, 0));
        due(when + "put", INDEX, () -> x.put(0, 0, 0));
        due(when + "put a MOVING one", INDEX, () -> x.put(0, -1, 0));
        due(when + "reach", STATE, () -> x.reach(1));
        due(when + "undo", STATE, () -> x.undo());
        due(when + "cycle", STATE, () -> x.cycle());
        due(when + "fates", INDEX, () -> x.fates(0, 0, true));
        due(when + "far", INDEX, () -> x.far(0));
        due(when + "span", INDEX, () -> x.span(0, false));
        due(when + "meets", INDEX, () -> x.meets(0));
        due(when + "beats", INDEX, () -> x.beats(0, 1));
        due(when + "safe", INDEX, () -> x.safe(0));
        due(when + "next", INDEX, () -> x.next(0, 0, 0));
        due(when + "unresolved", STATE, () -> x.unresolved());
        due(when + "paschs", STATE, () -> x.paschs(0));
        due(when + "paschs of no day", STATE, () -> x.paschs(-1));
        due(when + "alike", INDEX, () -> x.alike(0, 0));
        due(when + "sorts", STATE, () -> x.sorts());
        due(when + "yields", INDEX, () -> x.yields(0, 1));
        due(when + "course", STATE, () -> x.course(0));
        due(when + "heaviest", INDEX, () -> x.heaviest(0, 1, false));
        due(when + "interval", INDEX, () -> x.interval(0, false));
        due(when + "order", -1, () -> x.order(0));
        due(when + "better", INDEX, () -> x.better(0, 0, 0));
        due(when + "rival", INDEX, () -> x.rival(0));
        due(when + "lull", STATE, () -> x.lull(1));
        due(when + "tally", INDEX, () -> x.tally(0, 0));
        due(when + "leader", STATE, () -> x.leader());
        int[] counts = {0, 0, 0, 0, 0, 20, 0, 0, 0, 0, 5, -1};
        for (int i = 0; i < counts.length; i++) {
            int what = i;
            due(when + "count " + i, counts[i], () -> x.count(what));
        }
    }

    private static void noBook() {
        FeastBook x = new FeastBook();
        due("no IMAGE", false, () -> x.back());
        due("no text was read", -1, () -> x.fault());
        noBook("new: ", x);
        Texts.feed(x, TWO + ";rest 3;fast 1;lift 7;reach 3;season 0 0 1;closed 0 0;#");
        due("a wrong text", ARGUMENT, () -> x.book());
        noBook("behind a wrong text: ", x);
        x.image();
        noBook("behind an image of nothing: ", x);
        Texts.feed(x, TWO + ";rest 3;fast 1;lift 7;reach 3;season 0 0 1;closed 0 0");
        due("a right text", 2, () -> x.book());
        due("then there is a BOOK", 1, () -> x.cycle());
        x.rank(0, 9);
        due("back", true, () -> x.back());
        noBook("behind going back to nothing: ", x);
        due("back again", true, () -> x.back());
    }

    private static void tape() {
        FeastBook x = new FeastBook();
        int[] sizes = new int[20];
        for (int i = 0; i < 20; i++) {
            sizes[i] = x.feed(0x20202020, 0x20202020, 0x20202020, 0x20202020, 0x20202020);
            int many = sizes[i];
            due("feed " + i, 20 * (i + 1), () -> many);
        }
        due("more than 400", -1, () -> x.feed(0x78787878, 0x78787878, 0x78787878, 0x78787878, 0x78787878));
        due("none came", false, () -> x.end(401));
        due("all the same 400", true, () -> x.end(400));
        due("401 of 381 and 20", true, () -> x.end(381));
        due("more than 400 by one", -1, () -> x.feed(0x78787878, 0x78787878, 0x78787878, 0x78787878, 0x78787878));
        due("none came", false, () -> x.end(382));
        due("only blanks, more must come", ARGUMENT, () -> x.book());
        due("at its length", 381, () -> x.fault());
        due("used up", false, () -> x.end(1));
        due("feed anew", 20, () -> x.feed(0x626f6f6b, 0x20332035, 0x206d6f6f, 0x6e203120, 0x30203020));
        due("behind it", 40, () -> x.feed(0x31202020, 0x78787878, 0x78787878, 0x78787878, 0x78787878));
        due("fewer are there", false, () -> x.end(41));
        due("below 0", false, () -> x.end(-1));
        due("least of all", false, () -> x.end(LOW));
        due("most of all", false, () -> x.end(HIGH));
        due("as many as there are", true, () -> x.end(40));
        due("its first bytes alone", true, () -> x.end(21));
        due("fault stays", 381, () -> x.fault());
        due("book", 0, () -> x.book());
        due("no fault", -1, () -> x.fault());
        due("an empty TAPE", true, () -> x.end(0));
        due("an empty text", ARGUMENT, () -> x.book());
        due("more must come at 0", 0, () -> x.fault());
        due("feed to one byte", 20, () -> x.feed(0x62000000, 0, 0, 0, 0));
        due("end 1", true, () -> x.end(1));
        due("bytes come behind", 21, () -> x.feed(0x6f6f6b20, 0x33203520, 0x6d6f6f6e, 0x20312030, 0x20302031));
        due("book again", 0, () -> x.book());
        due("no fault again", -1, () -> x.fault());
        due("end of nothing", true, () -> x.end(0));
        due("feed 20", 20, () -> x.feed(0, 0, 0, 0, 0));
        due("end of all", true, () -> x.end(0));
        due("the text is empty", ARGUMENT, () -> x.book());
        due("fault 0", 0, () -> x.fault());
    }

    /** Each of the twenty bytes has its place: the wrong byte is found there and nowhere else. */
    private static void bytesInPlace() {
        for (int at = 0; at < 20; at++) {
            int[] five = {0x20202020, 0x20202020, 0x20202020, 0x20202020, 0x20202020};
            int[] signs = {0x00, 0x7f, 0x80, 0xff};
            for (int sign : signs) {
                int[] n = five.clone();
                int shift = 24 - at % 4 * 8;
                n[at / 4] = n[at / 4] & ~(0xff << shift) | sign << shift;
                int place = at;
                due("byte " + sign + " at " + at, place, () -> faultOf(n));
            }
        }
    }

    private static int faultOf(int[] n) {
        FeastBook x = new FeastBook();
        x.feed(n[0], n[1], n[2], n[3], n[4]);
        try {
            return x.book();
        } catch (IllegalArgumentException e) {
            return x.fault();
        }
    }

    private static void undo() {
        FeastBook x = Texts.told(TWO);
        due("nothing to take back", STATE, () -> x.undo());
        for (int i = 1; i <= 9; i++) {
            int reach = i;
            due("reach " + i, i == 1 ? 20 : i - 1, () -> x.reach(reach));
            due("remembered", Math.min(i, 8), () -> x.count(8));
        }
        for (int i = 7; i >= 0; i--) {
            int left = i;
            due("undo, left " + i, left, () -> x.undo());
            due("REACH", left + 1, () -> x.count(5));
        }
        due("the ninth is not remembered", STATE, () -> x.undo());
        due("REACH of the first change stays", 1, () -> x.count(5));
        due("one that changes nothing", 1, () -> x.reach(1));
        due("is remembered", 1, () -> x.count(8));
        due("rank that changes nothing", 4, () -> x.rank(0, 4));
        due("law that changes nothing", 0, () -> x.law(0, 0));
        due("put that changes nothing", 0, () -> x.put(0, 0, 3));
        due("are remembered", 4, () -> x.count(8));
        due("put", 1, () -> x.put(0, 0, 4));
        due("take put back", 4, () -> x.undo());
        due("law", 1, () -> x.law(1, 3));
        due("in its place", 5, () -> x.count(8));
        due("take law back", 4, () -> x.undo());
        due("LAW", 1, () -> x.feast(1, 4));
        due("day", 3, () -> x.feast(0, 3));
        due("take nothing back", 3, () -> x.undo());
        due("image", true, () -> {
            x.image();
            return true;
        });
        due("an image changes nothing of it", 3, () -> x.count(8));
        Texts.feed(x, "wrong");
        due("a wrong text", ARGUMENT, () -> x.book());
        due("nor a wrong text", 3, () -> x.count(8));
        due("going back", true, () -> x.back());
        due("none are remembered", 0, () -> x.count(8));
        due("nothing is taken back", STATE, () -> x.undo());
        due("rank", 4, () -> x.rank(0, 5));
        Texts.feed(x, TWO);
        due("a text", 2, () -> x.book());
        due("none are remembered behind a text", 0, () -> x.count(8));
        due("nothing is taken back behind a text", STATE, () -> x.undo());
    }

    private static void putAnswers() {
        FeastBook x = Texts.told("book 3 5 5 moon 1 0 0 1;feast 1 on 0 3 drop;feast 1 at 3 drop");
        due("another MONTH, the same day of it", 1, () -> x.put(0, 1, 3));
        due("the same MONTH, another day", 1, () -> x.put(0, 1, 4));
        due("the same", 0, () -> x.put(0, 1, 4));
        due("a MOVING one, its last number", 1, () -> x.put(1, -1, 99));
        due("the same", 0, () -> x.put(1, -1, 99));
        due("its first number", 1, () -> x.put(1, -1, -99));
        due("ABSENT then", 5, () -> x.of(1, 0, 2));
        due("MONTH of a MOVING one", -1, () -> x.feast(1, 2));
        due("undo", 5, () -> x.undo());
        due("it is as ahead of it", 99, () -> x.feast(1, 3));
    }

    /** THE CYCLE: the least multiple of CYCLE and L whose days are a multiple of WEEK. */
    private static int cycle(int week, int days, int each, int moon) {
        int all = 0;
        for (int year = 0; ; year++) {
            if (year > 0 && year % moon == 0 && (each == 0 || year % each == 0) && all % week == 0) {
                return year;
            }
            all += days + (each > 0 && year % each == 0 ? 1 : 0);
        }
    }

    private static void cycles() {
        int most = 0;
        int least = 9999;
        for (int week = 3; week <= 9; week++) {
            for (int days = 27; days <= 31; days++) {
                for (int each = 0; each <= 9; each += each == 0 ? 2 : 1) {
                    for (int moon = 1; moon <= 19; moon += moon < 9 ? 1 : 5) {
                        String text = "book " + week + " " + days + (each > 0 ? " leap " + each + " 0" : "")
                            + " moon " + moon + " 0 1 9";
                        int want = cycle(week, days, each, moon);
                        most = Math.max(most, want);
                        least = Math.min(least, want);
                        due("cycle of " + text, want, () -> Texts.told(text).cycle());
                    }
                }
            }
        }
        int greatest = most;
        int smallest = least;
        due("the greatest", 1539, () -> greatest);
        due("the least", 1, () -> smallest);
    }

    /** FEAST 0 is KEPT in the last and the first of ALL YEARS (0 and 2), not in YEAR 1, where day 2 is a SUNDAY. */
    private static final String LAST_AND_FIRST = TURNING + ";rest 9;feast 1 on 0 2 drop";

    private static void fates() {
        FeastBook x = Texts.told(LAST_AND_FIRST + ";feast 9 at 0 drop;feast 1 on 0 1 drop;feast 8 at 99 drop");
        due("ALL YEARS", 3, () -> x.cycle());
        due("KEPT in two", 2, () -> x.fates(0, 0, false));
        due("from YEAR 0 on", 0, () -> x.fates(0, 0, true));
        due("DROPPED in one", 1, () -> x.fates(0, 3, false));
        due("in YEAR 1", 1, () -> x.fates(0, 3, true));
        due("DROPPED in the last one of ALL YEARS", 2, () -> x.fates(2, 3, true));
        due("KEPT in all", 3, () -> x.fates(1, 0, false));
        due("ABSENT in all", 3, () -> x.fates(3, 5, false));
        due("from YEAR 0 on", 0, () -> x.fates(3, 5, true));
        for (int fate = 1; fate < 5; fate++) {
            int f = fate;
            due("in none", 0, () -> x.fates(3, f, false));
            due("no first one", -1, () -> x.fates(3, f, true));
        }
        FeastBook dropped = Texts.told(PLAIN_YEAR + ";rest 9;feast 1 at 0 drop");
        due("never KEPT", 0, () -> dropped.fates(0, 0, false));
        due("never KEPT, no first one", -1, () -> dropped.fates(0, 0, true));
        due("never ABSENT, no first one", -1, () -> dropped.fates(0, 5, true));
        for (int feast = 0; feast < 4; feast++) {
            int sum = 0;
            for (int fate = 0; fate <= 5; fate++) {
                sum += x.fates(feast, fate, false);
            }
            int all = sum;
            due("each YEAR has a FATE", 3, () -> all);
        }
    }

    private static void far() {
        String two = ";feast 9 on 0 1 drop;feast 5 on 0 1 move";
        String year = "book 9 30 30 30 moon 1 0 0 1;reach 60;closed -7 51";
        due("REACH 60", 60, () -> Texts.told(year + two).far(1));
        due("one more is LEFT", 0, () -> Texts.told(year.replace("51", "52") + two).far(1));
        due("KEPT", 0, () -> Texts.told(year + two).far(0));
        due("ABSENT", 0, () -> Texts.told(PLAIN_YEAR + ";feast 1 at 99 move").far(0));
        due("JOINED", 0, () -> Texts.told(PLAIN_YEAR + ";rest 9;feast 1 at 0 join").far(0));
        due("DROPPED", 0, () -> Texts.told(PLAIN_YEAR + ";rest 9;feast 1 at 0 drop").far(0));
        due("back", 3, () -> Texts.told(PLAIN_YEAR + ";rest 9;closed -2 -1;feast 1 at 0 back").far(0));
        due("the most of YEARS, the last one", 2, () -> Texts.told(TURNING + ";rest 9;feast 9 at 1 drop;feast 1 on 0 1 move").far(1));
    }

    private static void spans() {
        FeastBook x = Texts.told(PLAIN_YEAR + ";feast 1 on 0 0 drop;feast 1 on 0 9 drop;feast 9 on 0 9 drop;feast 5 on 0 0 back"
            + ";feast 9 at 99 drop;feast 9 on 0 7 drop;feast 5 on 0 7 move");
        due("DROPPED, the least", -1, () -> x.span(1, false));
        due("DROPPED, the greatest", -1, () -> x.span(1, true));
        due("the last day, the least", 9, () -> x.span(2, false));
        due("the last day, the greatest", 9, () -> x.span(2, true));
        due("the first day, the least", 0, () -> x.span(3, false));
        due("the first day, the greatest", 0, () -> x.span(3, true));
        due("ABSENT, the least", -1, () -> x.span(4, false));
        due("ABSENT, the greatest", -1, () -> x.span(4, true));
        due("MOVED, the least", 8, () -> x.span(6, false));
        due("MOVED, the greatest", 8, () -> x.span(6, true));
        FeastBook y = Texts.told(TURNING + ";feast 1 at -1 drop;feast 1 at -2 drop");
        due("from YEAR 2", 0, () -> y.span(0, false));
        due("to YEAR 0", 2, () -> y.span(0, true));
        due("day 0 is a day, though ABSENT in YEAR 2", 0, () -> y.span(1, false));
        due("day 1", 1, () -> y.span(1, true));
    }

    private static void meets() {
        FeastBook x = Texts.told(PLAIN_YEAR + ";feast 1 at 1 move".repeat(12));
        due("all others of 0", 4094, () -> x.meets(0));
        due("all others of 11", 2047, () -> x.meets(11));
        FeastBook alone = Texts.told(PLAIN_YEAR + ";feast 1 at 1 move");
        due("not itself", 0, () -> alone.meets(0));
        FeastBook near = Texts.told(PLAIN_YEAR + ";feast 1 at 1 move;feast 1 at 2 move;feast 1 at 0 move"
            + ";feast 9 at 99 drop;feast 9 at 99 drop");
        due("not a day beside", 0, () -> near.meets(0));
        due("not where both are ABSENT", 0, () -> near.meets(3));
        FeastBook some = Texts.told(TURNING + ";feast 9 at 0 drop;feast 1 on 0 1 move");
        due("in the last of ALL YEARS alone", 1, () -> some.meets(1));
        due("and the other way", 2, () -> some.meets(0));
        FeastBook moved = Texts.told(PLAIN_YEAR + ";feast 9 on 0 1 drop;feast 1 on 0 1 move"
            + ";feast 1 on 0 2 drop vigil 1;feast 5 on 0 3 drop");
        due("DAY, not where it is MOVED", 1, () -> moved.meets(1));
    }

    private static void beats() {
        FeastBook x = Texts.told(PLAIN_YEAR + ";feast 5 on 0 1 drop;feast 5 on 0 1 drop;feast 5 at 1 drop"
            + ";feast 5 at 99 drop;feast 6 on 0 8 drop");
        int[] order = {4, 2, 3, 0, 1};
        for (int i = 0; i < order.length; i++) {
            for (int j = 0; j < order.length; j++) {
                int a = order[i];
                int b = order[j];
                due(a + " beats " + b, i == j ? ARGUMENT : i < j, () -> x.beats(a, b));
            }
        }
        for (int k = 0; k < order.length; k++) {
            int place = k;
            due("order " + k, order[k], () -> x.order(place));
        }
        int[] none = {-1, 5, 11, 12, LOW, HIGH};
        for (int k : none) {
            due("order " + k, -1, () -> x.order(k));
        }
        FeastBook full = Texts.told(PLAIN_YEAR + ";feast 5 at 1 drop".repeat(11) + ";feast 9 at 1 drop");
        due("the greatest of twelve", 11, () -> full.order(0));
        due("the least of twelve", 10, () -> full.order(11));
        due("none behind twelve", -1, () -> full.order(12));
    }

    private static int safe(String lines, int feast) {
        return Texts.told(PLAIN_YEAR + lines).safe(feast);
    }

    private static void safe() {
        due("the least RANK", 1, () -> safe(";feast 9 on 0 2 drop", 0));
        due("on a SUNDAY of 0", 1, () -> safe(";feast 9 at 0 drop", 0));
        due("on a SUNDAY of 1", 1, () -> safe(";rest 1;feast 9 at 0 drop", 0));
        due("on a SUNDAY of 2", 2, () -> safe(";rest 2;feast 1 at 0 drop", 0));
        due("on a SUNDAY of 9", 9, () -> safe(";rest 9;feast 1 at 0 drop", 0));
        due("against a greater number, like RANK is enough", 5, () -> safe(";feast 1 on 0 2 drop;feast 5 on 0 2 drop", 0));
        due("against a lesser number, it is not", 6, () -> safe(";feast 5 on 0 2 drop;feast 1 on 0 2 drop", 1));
        due("FIXED against MOVING, it is not", 6, () -> safe(";feast 1 on 0 2 drop;feast 5 at -3 drop", 0));
        due("MOVING against FIXED, it is", 5, () -> safe(";feast 5 on 0 2 drop;feast 1 at -3 drop", 1));
        due("none against RANK 9 of a lesser number", -1, () -> safe(";feast 9 on 0 2 drop;feast 1 on 0 2 drop", 1));
        due("9 against RANK 9 of a greater number", 9, () -> safe(";feast 1 on 0 2 drop;feast 9 on 0 2 drop", 0));
        due("above an OCTAVE", 7, () -> safe(";feast 9 on 0 1 drop octave 7;feast 1 on 0 2 drop", 1));
        due("above a VIGIL", 7, () -> safe(";feast 9 on 0 3 drop vigil 7;feast 1 on 0 2 drop", 1));
        due("not its own OCTAVE and VIGIL", 1, () -> safe(";feast 9 on 0 3 drop vigil 7 octave 8", 0));
        due("on the last day of an OCTAVE", 7, () -> safe(";feast 9 on 0 1 drop octave 7;feast 1 on 0 6 drop", 1));
        due("behind it", 1, () -> safe(";feast 9 on 0 1 drop octave 7;feast 1 on 0 7 drop", 1));
        due("ahead of it", 1, () -> safe(";feast 9 on 0 3 drop octave 7;feast 1 on 0 2 drop", 1));
        due("a VIGIL ahead of a SUNDAY", 7, () -> safe(";feast 9 on 0 6 drop vigil 7;feast 1 on 0 4 drop", 1));
        due("on a SUNDAY of a SEASON", 6, () -> safe(";rest 3;season 0 0 6;feast 1 at 0 drop", 0));
        due("on a SUNDAY of no SEASON", 3, () -> safe(";rest 3;season 1 9 6;season -9 -1 6;feast 1 at 0 drop", 0));
        due("no SUNDAY has a SEASON", 1, () -> safe(";rest 3;season -9 9 6;feast 1 at 1 drop", 0));
        due("not below the OCTAVE of an ABSENT one", 1, () -> safe(";feast 9 at -6 drop octave 9;feast 1 on 0 2 drop", 1));
        due("nor below its VIGIL", 1, () -> safe(";feast 9 at 5 drop vigil 9;feast 1 on 0 9 drop", 1));
        due("ABSENT in all YEARS", 1, () -> safe(";feast 9 at 99 drop", 0));
        due("ABSENT in some, blocked in none", 1, () -> Texts.told(TURNING + ";rest 9;feast 4 at -2 drop").safe(0));
        due("by the worst of YEARS", 9, () -> Texts.told(LAST_AND_FIRST).safe(0));
    }

    private static void next() {
        FeastBook x = Texts.told(LAST_AND_FIRST);
        int[][] weekdayYearNext = {{2, 0, 0}, {2, 1, 3}, {2, 2, 3}, {2, 3, 3}, {1, 0, 2}, {1, 2, 2}, {1, 3, 5}, {0, 0, -1},
            {0, 1, -1}, {2, 9996, 9996}, {2, 9997, 9999}, {2, 9999, 9999}, {1, 9999, -1}, {1, 9998, 9998}, {1, 9997, 9998}};
        for (int[] w : weekdayYearNext) {
            due("next WEEKDAY " + w[0] + " from " + w[1], w[2], () -> x.next(0, w[0], w[1]));
        }
        FeastBook y = Texts.told(LAST_AND_FIRST + ";feast 1 at 99 drop;feast 9 at 1 drop;feast 1 at 1 move");
        due("ABSENT", -1, () -> y.next(1, 0, 0));
        due("MOVED, not its DAY's WEEKDAY", -1, () -> y.next(3, 1, 0));
        due("MOVED, where it is", 0, () -> y.next(3, 2, 0));
        String text = "book 9 30 moon 19 0 1 19;rest 9;feast 1 on 0 20 drop;feast 9 at 5 drop;feast 9 at 4 drop";
        int following = -1;
        for (int year = 9999; year > 9900; year--) {
            int y2 = year;
            FeastBook z = Texts.told(text);
            following = z.of(0, year, 1) == 20 && z.day(year, 20, 2) == 2 ? year : following;
            int want = following == -1 || following >= year + z.cycle() ? -1 : following;
            due("next of a longer CYCLE from " + year, want, () -> z.next(0, 2, y2));
        }
    }

    private static void unresolved() {
        String last = TURNING + ";rest 9;closed -1 -1;feast 5 on 0 1 back";
        due("in the last of ALL YEARS", 2, () -> Texts.told(last).unresolved());
        due("in YEAR 0", 0, () -> Texts.told(TURNING + ";rest 9;feast 5 on 0 0 back").unresolved());
        due("in none", -1, () -> Texts.told(last.replace("back", "move")).unresolved());
        due("DROPPED is resolved", -1, () -> Texts.told(last.replace("back", "drop")).unresolved());
        due("JOINED is resolved", -1, () -> Texts.told(last.replace("back", "join")).unresolved());
        due("ABSENT is resolved", -1, () -> Texts.told(TURNING + ";feast 5 at 99 move").unresolved());
        due("of several the first", 0, () -> Texts.told(last + ";feast 5 on 0 0 back").unresolved());
        due("of several the first, the other way", 0, () -> Texts.told(last.replace("feast", "feast 5 on 0 0 back;feast")).unresolved());
        due("one that is KEPT behind it", 2, () -> Texts.told(last + ";feast 9 on 1 4 back").unresolved());
        due("one that is KEPT ahead of it", 2, () -> Texts.told(last.replace("feast", "feast 9 on 1 4 back;feast")).unresolved());
        due("the twelfth", 0, () -> Texts.told(TURNING + ";rest 9" + ";feast 1 at 0 drop".repeat(11) + ";feast 1 at 6 move").unresolved());
    }

    private static void paschs() {
        FeastBook x = Texts.told("book 7 10 10 leap 2 0 moon 2 3 4 5");
        int[] want = new int[21];
        for (int year = 0; year < 14; year++) {
            want[x.year(year, 3)]++;
        }
        for (int d = 0; d < want.length; d++) {
            int day = d;
            due("paschs " + d, want[d], () -> x.paschs(day));
        }
        int[] none = {-1, 20, 21, 22, 99, LOW, HIGH};
        for (int day : none) {
            due("paschs " + day, 0, () -> x.paschs(day));
        }
        FeastBook y = Texts.told(PLAIN_YEAR);
        due("all", 1, () -> y.paschs(5));
        due("a day ahead", 0, () -> y.paschs(4));
        due("a day behind", 0, () -> y.paschs(6));
        FeastBook z = Texts.told("book 5 10 moon 1 4 0 1");
        due("day 5", 1, () -> z.paschs(5));
        FeastBook most = Texts.told("book 9 31 31 31 31 31 31 31 31 moon 19 99 30 29");
        int sum = 0;
        for (int day = 100; day <= 140; day++) {
            sum += most.paschs(day);
        }
        int all = sum;
        due("all PASCHS", most.cycle(), () -> all);
    }

    private static void alikeAndSorts() {
        FeastBook length = Texts.told("book 5 10 leap 2 0 moon 1 0 0 1");
        due("the same WEEKDAY and PASCH, not as many days", false, () -> length.alike(0, 9));
        due("WEEKDAY of both", 0, () -> length.year(0, 1) + length.year(9, 1));
        due("PASCH of both", 10, () -> length.year(0, 3) + length.year(9, 3));
        due("as many days, another WEEKDAY", false, () -> length.alike(0, 2));
        due("all the same", true, () -> length.alike(0, 10));
        due("sorts", 10, () -> length.sorts());
        FeastBook pasch = Texts.told("book 5 20 moon 2 0 7 10");
        due("as many days, the same WEEKDAY, another PASCH", false, () -> pasch.alike(0, 1));
        due("two sorts", 2, () -> pasch.sorts());
        FeastBook full = Texts.told("book 5 20 moon 2 0 3 10");
        due("another FULL, the same PASCH", true, () -> full.alike(0, 1));
        due("FULL of both", 3, () -> full.year(0, 2) + full.year(1, 2));
        due("one sort in two YEARS", 1, () -> full.sorts());
        due("two YEARS", 2, () -> full.cycle());
        due("first and last YEAR", true, () -> full.alike(0, 9999));
        due("one sort", 1, () -> Texts.told(PLAIN_YEAR).sorts());
        FeastBook turning = Texts.told(TURNING);
        due("three sorts", 3, () -> turning.sorts());
        due("the YEAR behind THE CYCLE is as the first", true, () -> turning.alike(0, 3));
        due("the last of it is not", false, () -> turning.alike(0, 2));
        due("a YEAR and itself", true, () -> turning.alike(9999, 9999));
    }

    private static void yieldsAndRivals() {
        FeastBook x = Texts.told(TURNING + ";feast 9 at 0 drop;feast 9 at 1 drop;feast 1 on 0 3 drop"
            + ";feast 1 at 99 drop;feast 9 at 99 drop");
        due("one YEAR", 1, () -> x.yields(2, 0));
        due("another YEAR", 1, () -> x.yields(2, 1));
        due("of several RIVALS the least", 0, () -> x.rival(2));
        due("not to one that is ABSENT, too", 0, () -> x.yields(3, 4));
        due("no RIVAL of an ABSENT one", -1, () -> x.rival(3));
        due("no RIVAL of one that is KEPT", -1, () -> x.rival(0));
        due("the KEPT one yields not", 0, () -> x.yields(0, 2));
        FeastBook y = Texts.told(PLAIN_YEAR + ";feast 1 on 0 3 drop;feast 2 on 0 3 drop;feast 3 on 0 3 drop");
        due("all YEARS", 1, () -> y.yields(0, 2));
        due("not to one that is not KEPT", 0, () -> y.yields(0, 1));
        due("RIVAL, the last one", 2, () -> y.rival(0));
        FeastBook z = Texts.told(PLAIN_YEAR + ";rest 9;feast 1 at 0 drop;feast 2 at 0 drop;feast 5 on 0 6 drop;feast 5 on 0 6 move");
        due("to a SUNDAY", 0, () -> z.yields(0, 1));
        due("a SUNDAY is no RIVAL", -1, () -> z.rival(0));
        due("MOVED, but on the DAY of one", 1, () -> z.yields(3, 2));
        FeastBook twelve = Texts.told(TURNING + ";feast 9 at 0 drop;feast 9 at 2 drop vigil 9"
            + ";feast 1 at 99 drop".repeat(9) + ";feast 1 at 1 drop");
        due("the twelfth yields to a VIGIL alone", -1, () -> twelve.rival(11));
        FeastBook again = Texts.told(PLAIN_YEAR + ";feast 1 on 0 9 drop;feast 9 at 0 drop");
        due("no RIVAL", -1, () -> again.rival(0));
        Texts.feed(again, PLAIN_YEAR + ";rest 9;feast 1 at 0 drop");
        due("another text", 1, () -> again.book());
        due("no RIVAL of the text before", -1, () -> again.rival(0));
        FeastBook more = Texts.told(TURNING + ";feast 9 on 0 3 drop;feast 9 at 0 drop;feast 1 at 0 drop");
        due("RIVAL by most YEARS", 1, () -> more.rival(2));
        due("two or three of them", 3, () -> more.yields(2, 0) + more.yields(2, 1));
    }

    private static void course() {
        int[][] want = {{4, 4, 4, 4}, {0, 3, 0, 0}};
        FeastBook x = Texts.told(PLAIN_YEAR);
        for (int i = 0; i < 4; i++) {
            int what = i;
            due("course " + i, want[0][i], () -> x.course(what));
        }
        // Plain are 1 2 | 4 5 7 8, then 0 1 | 3 4 6 7 9, then 0 | 2 3 5 6 8 9.
        FeastBook y = Texts.told(TURNING);
        int[] turning = {1, 2, 4, 6};
        for (int i = 0; i < 4; i++) {
            int what = i;
            due("course " + i + " of three YEARS", turning[i], () -> y.course(what));
        }
        FeastBook z = Texts.told("book 3 6 moon 1 0 0 1;feast 1 on 0 1 drop octave 1");
        int[] none = {0, 0, 1, 1};
        for (int i = 0; i < 4; i++) {
            int what = i;
            due("course " + i + " with an OCTAVE", none[i], () -> z.course(what));
        }
    }

    private static void heaviest() {
        FeastBook x = Texts.told(PLAIN_YEAR + ";feast 3 on 0 2 drop;feast 3 on 0 8 drop;feast 1 on 0 9 drop");
        int[][] want = {{1, 2, 3}, {2, 8, 4}, {3, 7, 4}, {7, 2, 6}, {8, 2, 7}, {9, 1, 7}, {10, 0, 7}, {11, -1, -1}, {60, -1, -1}};
        for (int[] w : want) {
            due("heaviest " + w[0], w[1], () -> x.heaviest(0, w[0], false));
            due("WEIGHT of heaviest " + w[0], w[2], () -> x.heaviest(0, w[0], true));
        }
        FeastBook first = Texts.told(PLAIN_YEAR + ";feast 5 on 0 0 drop;feast 4 on 0 1 drop;feast 4 on 0 9 drop");
        due("the first day", 0, () -> first.heaviest(0, 1, false));
        due("WEIGHT of the first day", 5, () -> first.heaviest(0, 1, true));
        due("the first two", 0, () -> first.heaviest(0, 2, false));
        due("WEIGHT of the first two", 9, () -> first.heaviest(0, 2, true));
        FeastBook none = Texts.told(PLAIN_YEAR);
        due("of several the first", 0, () -> none.heaviest(0, 3, false));
        due("no WEIGHT", 0, () -> none.heaviest(0, 3, true));
        FeastBook leap = Texts.told("book 5 5 5 leap 2 0 moon 1 0 0 1");
        due("the YEAR with the day more", 0, () -> leap.heaviest(0, 11, false));
        due("the YEAR without it", -1, () -> leap.heaviest(1, 11, false));
        FeastBook sixty = Texts.told("book 9 30 30 moon 1 0 0 1;feast 9 on 1 29 drop");
        due("sixty days", 9, () -> sixty.heaviest(0, 60, true));
        due("from the first on", 0, () -> sixty.heaviest(0, 60, false));
        FeastBook more = Texts.told("book 9 30 31 moon 1 0 0 1;feast 9 on 1 30 drop");
        due("sixty of 61 days", 1, () -> more.heaviest(0, 60, false));
        due("the last day alone", 60, () -> more.heaviest(0, 1, false));
        FeastBook less = Texts.told("book 9 30 29 moon 1 0 0 1");
        due("sixty of 59 days", -1, () -> less.heaviest(0, 60, true));
    }

    private static void interval() {
        FeastBook x = Texts.told(LAST_AND_FIRST + ";feast 9 at -1 drop;feast 1 on 0 1 drop;feast 1 at 99 drop");
        // FEAST 2 is KEPT on day 1 of YEAR 0 alone: 1 has the greater one there, and in 2 it is a SUNDAY.
        due("FEAST 0 yields in YEAR 0 as well: it is in one YEAR alone", -1, () -> x.interval(0, false));
        due("none, the most", -1, () -> x.interval(2, true));
        due("none, the fewest", -1, () -> x.interval(2, false));
        due("ABSENT", -1, () -> x.interval(3, true));
        due("MOVING, the fewest", 9, () -> x.interval(1, false));
        due("MOVING, the most: from the last of ALL YEARS to the next", 12, () -> x.interval(1, true));
        FeastBook y = Texts.told(LAST_AND_FIRST);
        due("only from the last to the first", 10, () -> y.interval(0, false));
        due("only from the last to the first, the most", 10, () -> y.interval(0, true));
        FeastBook one = Texts.told(PLAIN_YEAR + ";feast 1 on 0 0 drop;feast 1 on 0 9 drop");
        due("one YEAR, to the next", 10, () -> one.interval(0, false));
        due("one YEAR, its last day", 10, () -> one.interval(1, true));
        FeastBook leap = Texts.told("book 5 10 leap 2 0 moon 1 0 0 1;feast 1 on 0 9 drop;feast 1 at 0 drop");
        due("the day more lies between", 11, () -> leap.interval(0, true));
        due("or not", 10, () -> leap.interval(0, false));
        FeastBook moved = Texts.told(TURNING + ";rest 9;feast 1 on 0 2 move");
        due("from where it is MOVED", 9, () -> moved.interval(0, false));
        due("to where it is MOVED", 11, () -> moved.interval(0, true));
    }

    private static int[] better(String text, int n) {
        FeastBook x = Texts.told(text);
        return new int[] {x.better(0, n, 0), x.better(0, n, 1)};
    }

    private static void better(String what, String text, int n, int day, int years) {
        due(what + ", the day: " + text, day, () -> better(text, n)[0]);
        due(what + ", YEARS: " + text, years, () -> better(text, n)[1]);
    }

    private static String nines(int... told) {
        StringBuilder lines = new StringBuilder();
        for (int day : told) {
            lines.append(";feast 9 at ").append(day).append(" drop");
        }
        return lines.toString();
    }

    private static void better() {
        String fixed = "book 9 5 22 moon 1 0 0 1;feast 1 on 0 4 drop";
        better("in its MONTH, five at most", fixed + nines(-8, -7, -6, -5), 5, 0, 1);
        better("four", fixed + nines(-8, -7, -6, -5), 4, 0, 1);
        better("not three", fixed + nines(-8, -7, -6, -5), 3, 4, 0);
        better("not into the next MONTH", fixed + nines(-9, -8, -7, -6, -5), 5, 4, 0);
        String second = "book 9 5 22 moon 1 0 0 1;feast 1 on 1 0 drop";
        better("not into the MONTH ahead", second + nines(-4, -3, -2, -1, 0), 5, 5, 1);
        better("not into the MONTH ahead", second + nines(-4, -3, -2, -1, 0, 1), 5, 0, 0);
        better("N 0", second + nines(-4), 0, 0, 0);
        better("N 1", second + nines(-4), 1, 1, 1);
        String leap = "book 9 27 leap 2 0 moon 1 0 0 1;feast 1 on 0 26 drop";
        better("not on the day of LEAP", leap + ";feast 9 on 0 26 drop;feast 9 on 0 25 drop;feast 9 on 0 24 drop", 2, 26, 0);
        String far = "book 3 31 31 31 31 31 31 31 31 moon 1 99 0 1;feast 1 at ";
        better("not above 99", far + "99 drop" + nines(99, 98, 97, 96, 95), 5, 94, 3);
        better("not above 99", far + "98 drop" + nines(99, 98, 97, 96, 95, 94, 93), 5, 98, 0);
        better("up to 99", far + "98 drop" + nines(98, 97), 5, 99, 3);
        better("not below -99", far + "-99 drop" + nines(-99, -98, -97, -96, -95), 5, -94, 3);
        better("not below -99", far + "-98 drop" + nines(-99, -98, -97, -96, -95, -94, -93), 5, -98, 0);
        better("down to -99", far + "-98 drop" + nines(-98), 5, -99, 3);
        better("of several the nearest", PLAIN_YEAR + ";feast 1 at 2 drop" + nines(2, 1), 5, 3, 1);
        better("of several the nearest, two away", PLAIN_YEAR + ";feast 1 at 2 drop" + nines(2, 1, 3, 0), 5, 4, 1);
        better("of these the lesser", PLAIN_YEAR + ";feast 1 at -2 drop" + nines(-2), 5, -3, 1);
        better("of these the lesser, two away", PLAIN_YEAR + ";feast 1 at -2 drop" + nines(-2, -3, -1), 5, -4, 1);
        better("the one told, if none is better", PLAIN_YEAR + ";feast 1 at -2 drop", 5, -2, 1);
        better("the one told, if all are none", PLAIN_YEAR + ";feast 1 at 99 drop", 5, 99, 0);
        better("from ABSENT into the YEAR", PLAIN_YEAR + ";feast 1 at 9 drop", 5, 4, 1);
        better("not six days", PLAIN_YEAR + ";feast 1 at 10 drop", 5, 10, 0);
        better("from ahead of the YEAR", PLAIN_YEAR + ";feast 1 at -10 drop", 5, -5, 1);
        better("by more YEARS, though farther", TURNING + ";rest 9;feast 1 at 0 drop" + nines(1, -1), 2, 2, 3);
        better("two of three YEARS", LAST_AND_FIRST, 0, 2, 2);
        better("not to a SUNDAY of a SEASON", PLAIN_YEAR + ";season 0 0 5;feast 4 at -1 drop" + nines(-1, -2), 1, -1, 0);
        better("to a SUNDAY of no SEASON", PLAIN_YEAR + ";season 1 9 5;feast 4 at -1 drop" + nines(-1, -2), 1, 0, 1);
        better("not to the last day of an OCTAVE",
            PLAIN_YEAR + ";feast 4 on 0 7 drop;feast 9 on 0 1 drop octave 5;feast 9 on 0 7 drop", 1, 8, 1);
        better("not to a VIGIL", PLAIN_YEAR + ";feast 4 on 0 3 drop;feast 9 on 0 3 drop vigil 5", 1, 4, 1);
        FeastBook x = Texts.told(LAST_AND_FIRST);
        x.better(0, 5, 0);
        due("nothing is told by it", 2, () -> x.feast(0, 3));
        due("nothing is to be taken back", 0, () -> x.count(8));
        due("FATES stay", 2, () -> x.fates(0, 0, false));
    }

    private static void lull() {
        FeastBook x = Texts.told("book 9 31 moon 1 0 0 1");
        due("WEEK but for the SUNDAY", 0, () -> x.lull(8));
        due("none of WEEK days", -1, () -> x.lull(9));
        due("none of sixty days", -1, () -> x.lull(60));
        due("RUN", 8, () -> x.year(0, 5));
        FeastBook y = Texts.told(TURNING + ";feast 9 at -1 drop octave 9;feast 9 at 3 drop octave 9;feast 1 on 1 4 drop");
        int[] runs = {y.year(0, 5), y.year(1, 5), y.year(2, 5)};
        for (int n = 1; n <= 3; n++) {
            int first = -1;
            for (int year = 2; year >= 0; year--) {
                first = runs[year] >= n ? year : first;
            }
            int want = first;
            int least = n;
            due("lull " + n, want, () -> y.lull(least));
        }
        // Days 1 2 4 5 7 8 are taken in YEAR 0; in YEAR 1 day 0 and in 2 days 0, 3, 6, 9 are plain, one by one.
        FeastBook z = Texts.told(TURNING + ";feast 1 on 0 1 drop;feast 1 on 0 2 drop;feast 1 on 0 4 drop;feast 1 on 1 0 drop"
            + ";feast 1 on 1 2 drop;feast 1 on 1 3 drop");
        due("RUN of YEAR 0", 0, () -> z.year(0, 5));
        due("the first one with a RUN", 1, () -> z.lull(1));
        due("no RUN of two", -1, () -> z.lull(2));
        z.put(5, 1, 2);
        due("now 8 and 9 are plain in YEAR 2", 2, () -> z.lull(2));
    }

    private static void tallyAndLeader() {
        FeastBook x = Texts.told(PLAIN_YEAR + ";reach 1;feast 9 on 0 9 drop;feast 5 on 0 9 move;feast 5 on 0 9 join;feast 5 on 0 9 drop"
            + ";feast 1 at 99 drop;feast 9 on 0 3 drop;feast 5 on 0 3 move;feast 8 on 0 1 drop");
        int[] tally = {3, 1, 1, 1, 1, 1};
        for (int i = 0; i < 6; i++) {
            int fate = i;
            due("tally " + i, tally[i], () -> x.tally(9999, fate));
        }
        due("of several the least", 0, () -> x.leader());
        due("all twelve ABSENT", 12, () -> Texts.told(PLAIN_YEAR + ";feast 1 at 99 drop".repeat(12)).tally(0, 5));
        due("the last of them", 1, () -> Texts.told(LAST_AND_FIRST + ";feast 9 at 0 drop").leader());
        due("by one YEAR more", 1, () -> Texts.told(TURNING + ";rest 9;feast 1 on 0 2 drop;feast 9 on 0 4 drop").leader());
        due("MOVED is not KEPT", 1, () -> Texts.told(PLAIN_YEAR + ";feast 1 on 0 3 move;feast 2 on 0 3 drop").leader());
        due("without a KEPT one, the least", 0, () -> Texts.told(PLAIN_YEAR + ";feast 1 at 99 drop;feast 1 at 98 drop").leader());
    }

    private static void measures() {
        FeastBook x = Texts.told(PLAIN_YEAR + ";fast 3;fast 4;rest 2;feast 1 on 0 1 drop;feast 1 on 0 1 drop;feast 1 on 0 1 drop"
            + ";feast 1 on 0 7 drop;feast 1 at 2 drop;feast 9 at 99 drop;feast 9 at 99 drop;feast 9 on 0 9 move");
        int[] want = {10, 0, 0, 5, 5, 3, 0, 3, 2, 2, 15};
        for (int i = 0; i < want.length; i++) {
            int what = i;
            due("year what " + i, want[i], () -> x.year(0, what));
        }
        FeastBook meeting = Texts.told(PLAIN_YEAR + ";feast 1 on 0 1 drop;feast 1 at -4 drop;feast 1 on 0 2 drop");
        due("one MEETING of two", 1, () -> meeting.year(0, 9));
        FeastBook none = Texts.told(PLAIN_YEAR + ";feast 1 on 0 1 drop;feast 1 on 0 2 drop;feast 1 on 0 3 drop");
        due("no MEETING", 0, () -> none.year(0, 9));
        FeastBook two = Texts.told(PLAIN_YEAR + ";feast 1 on 0 1 drop;feast 1 on 0 2 drop;feast 1 on 0 1 drop;feast 1 on 0 2 drop");
        due("two MEETINGS", 2, () -> two.year(0, 9));
        FeastBook turning = Texts.told(TURNING);
        due("FREE, the first and the last day, too", 7, () -> turning.year(1, 4));
        due("FREE in YEAR 0", 6, () -> turning.year(0, 4));
        due("FREE in YEAR 2", 7, () -> turning.year(2, 4));
        FeastBook first = Texts.told("book 5 11 moon 1 0 0 1;feast 1 on 0 6 drop;fast 1;fast 2;fast 3;fast 4;lift 1");
        due("RUN from the first day on", 4, () -> first.year(1, 5));
        due("FASTS from the first day on", 4, () -> first.year(1, 8));
        FeastBook last = Texts.told("book 4 7 moon 1 0 0 1;fast 1;fast 2;fast 3;feast 9 on 0 1 drop");
        due("FASTS up to the last day, not beyond", 2, () -> last.year(0, 8));
        due("RUN up to the last day, not beyond", 2, () -> last.year(0, 5));
        FeastBook up = Texts.told("book 4 8 moon 1 0 0 1;fast 1;fast 2;fast 3;feast 9 on 0 1 drop");
        due("FASTS with the last day", 3, () -> up.year(0, 8));
        due("RUN with the last day", 3, () -> up.year(0, 5));
        FeastBook y = Texts.told("book 3 6 moon 1 0 0 1;fast 1;fast 2;fast 0");
        due("FASTS up to the last day", 4, () -> y.year(0, 7));
        due("one behind another", 2, () -> y.year(0, 8));
    }

    private static void image() {
        FeastBook x = Texts.told(TWO + ";fast 1;closed 1 1;season 0 0 4");
        due("no IMAGE", false, () -> x.back());
        due("nothing happens", 2, () -> x.count(2));
        x.rank(0, 9);
        due("no IMAGE yet", false, () -> x.back());
        due("what is remembered stays", 1, () -> x.count(8));
        due("RANK stays", 9, () -> x.feast(0, 0));
        x.image();
        x.rank(0, 3);
        x.image();
        x.rank(0, 1);
        due("to the later one", true, () -> x.back());
        due("there is one IMAGE alone", 3, () -> x.feast(0, 0));
        x.put(1, -1, 4);
        x.law(1, 3);
        x.reach(60);
        due("again", true, () -> x.back());
        due("the day", -2, () -> x.feast(1, 3));
        due("LAW", 1, () -> x.feast(1, 4));
        due("REACH", 20, () -> x.count(5));
        Texts.feed(x, "book 3 5 moon 1 0 0 1;fast 2;rest 9;lift 9");
        due("another BOOK", 0, () -> x.book());
        x.feed(0, 0, 0, 0, 0);
        due("back over a text", true, () -> x.back());
        int[] counts = {5, 1, 2, 1, 1, 20, 0, 0, 0, 2, 5};
        for (int i = 0; i < counts.length; i++) {
            int what = i;
            due("count " + i, counts[i], () -> x.count(what));
        }
        due("CLOSED", 1, () -> x.day(0, 6, 3));
        due("SEASON", 4, () -> x.base(0, 5, 1));
        due("TAPE is as it was", true, () -> x.end(20));
        due("fault is as it was", -1, () -> x.fault());
        due("a wrong text", ARGUMENT, () -> x.book());
        due("back behind it", true, () -> x.back());
        due("fault is not gone back to", 0, () -> x.fault());
        due("TAPE neither", false, () -> x.end(1));
    }

    public static void main(String[] args) {
        whats();
        years();
        days();
        feasts();
        numbers();
        whichComesFirst();
        noBook();
        tape();
        bytesInPlace();
        undo();
        putAnswers();
        cycles();
        fates();
        far();
        spans();
        meets();
        beats();
        safe();
        next();
        unresolved();
        paschs();
        alikeAndSorts();
        yieldsAndRivals();
        course();
        heaviest();
        interval();
        better();
        lull();
        tallyAndLeader();
        measures();
        image();
        CHECK.finish();
    }
}
