/**
 * Sentences of the document that a reading from its first line found without a test by hand: each FATE against each
 * question, what CLOSED days leave alone, which VIGILS make a FAST, who counts as the one yielded to, THE CYCLE as days.
 * PLAIN_YEAR has ten days, WEEK 5: SUNDAYS are 0 and 5, PASCH is 5, all YEARS are alike.
 * In TURNING SUNDAYS are 0 3 6 9, 2 5 8, 1 4 7 in YEARS 0, 1, 2, and PASCH is 3, 2, 1.
 */
public final class SentencesTest {
    private static final Check CHECK = new Check("SentencesTest");
    private static final String PLAIN_YEAR = "book 5 10 moon 1 0 0 1";
    private static final String LONG_YEAR = "book 5 31 moon 1 0 0 1";
    private static final String TURNING = "book 3 5 5 moon 1 0 0 1";

    // Day 3: KEPT, MOVED to 4, JOINED, DROPPED, LEFT (0 to 2 are CLOSED). Then one that is ABSENT.
    // The SUNDAY 5 is greater than all: MOVED to 6, JOINED, DROPPED, LEFT (3 and 4 are taken).
    private static final String EACH_FATE = PLAIN_YEAR + ";rest 9;closed -5 -3;feast 9 on 0 3 drop;feast 5 on 0 3 move"
        + ";feast 4 on 0 3 join;feast 3 on 0 3 drop;feast 2 on 0 3 back;feast 9 at 99 drop;feast 5 at 0 move"
        + ";feast 4 at 0 join;feast 3 at 0 drop;feast 2 at 0 back";
    private static final int[] DAY = {3, 3, 3, 3, 3, -1, 5, 5, 5, 5};
    private static final int[] PLACE = {3, 4, -1, -1, -1, -1, 6, -1, -1, -1};
    private static final int[] FATE = {0, 1, 2, 3, 4, 5, 1, 2, 3, 4};
    private static final int[] YIELDED_FEAST = {-1, 0, 0, 0, 0, -1, -1, -1, -1, -1};
    private static final int[] YIELDED_KIND = {-1, 4, 4, 4, 4, -1, 3, 3, 3, 3};
    private static final int[] SAFE = {5, -1, -1, -1, -1, 1, 9, 9, 9, 9};

    private static void due(String what, Object want, Check.Call call) {
        CHECK.due(what, want, call);
    }

    private interface Of {
        int day(int day);
    }

    /** One sign for each day: what is asked must be the figure there (- is NONE). */
    private static void row(String what, String want, Of of) {
        StringBuilder got = new StringBuilder();
        for (int day = 0; day < want.length(); day++) {
            int answer = of.day(day);
            got.append(answer == -1 ? "-" : answer);
        }
        due(what, want, () -> got.toString());
    }

    private static void fasts(String what, String want, String text) {
        FeastBook x = Texts.told(text);
        row(what + ": " + text, want, day -> x.fast(0, day) ? 1 : 0);
    }

    /** What became of a FEAST and what it yielded to (neither KEPT nor ABSENT: the KEPT one, or KIND of BASE). */
    private static void eachFateInAYear(FeastBook x, int year) {
        for (int f = 0; f < FATE.length; f++) {
            int feast = f;
            int[] want = {DAY[f], PLACE[f], FATE[f], YIELDED_FEAST[f], YIELDED_KIND[f]};
            for (int w = 0; w < want.length; w++) {
                int what = w;
                due("of " + f + " in " + year + " what " + w, want[w], () -> x.of(feast, year, what));
            }
        }
        int[] tally = {1, 2, 2, 2, 2, 1};
        for (int i = 0; i < tally.length; i++) {
            int fate = i;
            due("tally in " + year + " of " + i, tally[i], () -> x.tally(year, fate));
        }
        row("KIND of OFFICE", "3004434000", day -> x.office(year, day, 0));
        row("RANK of OFFICE", "9009595000", day -> x.office(year, day, 1));
        row("FEAST of OFFICE", "---01-6---", day -> x.office(year, day, 2));
        row("days to which one is JOINED", "0001010000", day -> x.joined(year, day) == 0 ? 0 : 1);
        due("JOINED to day 3", 1 << 2, () -> x.joined(year, 3));
        due("JOINED to the SUNDAY", 1 << 7, () -> x.joined(year, 5));
        row("LESSON", "-01----012", day -> x.lesson(year, day));
        row("CLOSED", "1110000000", day -> x.day(year, day, 3));
        int[] measures = {10, 0, 0, 5, 5, 3, 0, 0, 0, 2, 37};
        for (int i = 0; i < measures.length; i++) {
            int what = i;
            due("year " + year + " what " + i, measures[i], () -> x.year(year, what));
        }
    }

    /** Each question over ALL YEARS, asked of a FEAST of each FATE. */
    private static void eachFateOverAllYears(FeastBook x) {
        for (int f = 0; f < FATE.length; f++) {
            int feast = f;
            for (int i = 0; i <= 5; i++) {
                int fate = i;
                due("fates of " + f + ", " + i, FATE[f] == i ? 1 : 0, () -> x.fates(feast, fate, false));
                due("first of fates of " + f + ", " + i, FATE[f] == i ? 0 : -1, () -> x.fates(feast, fate, true));
            }
            due("far of " + f, FATE[f] == 1 ? 1 : 0, () -> x.far(feast));
            due("least span of " + f, PLACE[f], () -> x.span(feast, false));
            due("greatest span of " + f, PLACE[f], () -> x.span(feast, true));
            due("fewest interval of " + f, PLACE[f] == -1 ? -1 : 10, () -> x.interval(feast, false));
            due("most interval of " + f, PLACE[f] == -1 ? -1 : 10, () -> x.interval(feast, true));
            due("safe of " + f, SAFE[f], () -> x.safe(feast));
            due("rival of " + f, YIELDED_FEAST[f], () -> x.rival(feast));
            for (int w = 0; w < 5; w++) {
                int weekday = w;
                due("next of " + f + " on " + w, PLACE[f] != -1 && PLACE[f] % 5 == w ? 7 : -1, () -> x.next(feast, weekday, 7));
            }
            due("meets of " + f, f < 5 ? 31 & ~(1 << f) : f == 5 ? 0 : 0x3c0 & ~(1 << f), () -> x.meets(feast));
            for (int g = 0; g < FATE.length; g++) {
                int other = g;
                if (f != g) {
                    due("yields of " + f + " to " + g, g == YIELDED_FEAST[f] ? 1 : 0, () -> x.yields(feast, other));
                }
            }
        }
        due("unresolved", 0, () -> x.unresolved());
        due("leader", 0, () -> x.leader());
        due("lull of three", 0, () -> x.lull(3));
        due("no lull of four", -1, () -> x.lull(4));
        row("course", "2233", what -> x.course(what));
    }

    private static void eachFate() {
        FeastBook x = Texts.told(EACH_FATE);
        eachFateInAYear(x, 0);
        eachFateOverAllYears(x);
        eachFateInAYear(x, 9999);
    }

    /** CLOSED is asked of days to which one would be MOVED, and of nothing else. */
    private static void closedDays() {
        FeastBook x = Texts.told(PLAIN_YEAR + ";rest 2;fast 1;closed -99 99;feast 5 on 0 3 move vigil 1;feast 4 on 0 3 join"
            + ";feast 4 on 0 3 drop;feast 5 at 3 drop octave 1;feast 3 at 3 back;feast 3 at 0 move;feast 1 at 0 move");
        row("all are CLOSED", "1111111111", day -> x.day(0, day, 3));
        row("FATES on CLOSED days", "0230404", feast -> x.of(feast, 0, 2));
        row("KIND of OFFICE", "3014040042", day -> x.office(0, day, 0));
        row("FASTS on CLOSED days", "0110001000", day -> x.fast(0, day) ? 1 : 0);
        row("LESSONS on CLOSED days", "-0--1-01--", day -> x.lesson(0, day));
        due("JOINED to a CLOSED day", 2, () -> x.joined(0, 3));
        due("FREE", 4, () -> x.year(0, 4));
        due("by RANK 3 it would be KEPT on a CLOSED day", 3, () -> x.safe(3));
        due("BETTER is a CLOSED day, too", 2, () -> x.better(4, 1, 0));
        due("KEPT there", 1, () -> x.better(4, 1, 1));
        Texts.feed(x, PLAIN_YEAR + ";closed -99 99;feast 1 at 0 drop;feast 1 on 0 2 drop");
        due("another text", 2, () -> x.book());
        due("KEPT on the SUNDAY", 0, () -> x.of(0, 0, 2));
        due("KEPT on another day", 0, () -> x.of(1, 0, 2));
    }

    /** A FAST: .. a CLAIM of KIND 1 of a FEAST that is KEPT, if its OFFICE is no FEAST with RANK LIFT or above. */
    private static void vigilFasts() {
        // The FEASTS with a VIGIL are KEPT, MOVED, JOINED, DROPPED, LEFT; their VIGILS are on 2, 7, 12, 17, 22.
        String five = LONG_YEAR + ";reach 1;closed 17 17;feast 9 on 0 3 drop vigil 1;feast 9 on 0 8 drop;feast 5 on 0 8 move vigil 1"
            + ";feast 9 on 0 13 drop;feast 5 on 0 13 join vigil 1;feast 9 on 0 18 drop;feast 5 on 0 18 drop vigil 1"
            + ";feast 9 on 0 23 drop;feast 5 on 0 23 back vigil 1";
        FeastBook x = Texts.told(five);
        row("FATES", "001020304", feast -> x.of(feast, 0, 2));
        row("VIGILS", "3010030100301003010030100300003", day -> x.base(0, day, 0));
        fasts("VIGIL of a KEPT one alone", "0010000000000000000000000000000", five);
        fasts("VIGIL of a RANK above LIFT lifts nothing", "0010000000", PLAIN_YEAR + ";feast 9 on 0 3 drop vigil 9");
        fasts("nor where it is the WEEKDAY", "0010000100",
            PLAIN_YEAR + ";fast 2;feast 9 on 0 3 drop;feast 8 on 0 3 drop vigil 9");
        fasts("VIGIL of a KEPT one below that of another one", "0010000000",
            PLAIN_YEAR + ";feast 9 on 0 3 drop vigil 1;feast 8 on 0 3 drop vigil 9");
        fasts("VIGIL of a KEPT one below that of another DAY", "0000100000",
            PLAIN_YEAR + ";rest 9;feast 5 on 0 6 drop vigil 2;feast 8 at 0 drop vigil 9");
        fasts("both KEPT", "0000100000", PLAIN_YEAR + ";feast 5 on 0 6 drop vigil 2;feast 8 at 0 drop vigil 9");
        fasts("a lesser FEAST MOVED there", "0010000000",
            PLAIN_YEAR + ";feast 9 on 0 3 drop vigil 1;feast 9 on 0 1 drop;feast 4 on 0 1 move");
        fasts("a FEAST with RANK LIFT MOVED there", "0000000000",
            PLAIN_YEAR + ";feast 9 on 0 3 drop vigil 1;feast 9 on 0 1 drop;feast 5 on 0 1 move");
        fasts("a JOINED one of any RANK lifts nothing", "0010000100",
            PLAIN_YEAR + ";fast 2;feast 8 on 0 2 join;feast 9 on 0 3 drop vigil 9");
        FeastBook rank = Texts.told(PLAIN_YEAR + ";fast 2;feast 4 on 0 2 drop");
        due("below LIFT", true, () -> rank.fast(0, 2));
        rank.rank(0, 5);
        due("RANK is told by hand", false, () -> rank.fast(0, 2));
        rank.undo();
        due("and taken back", true, () -> rank.fast(0, 2));
    }

    /** YIELDS, RIVAL, what it yielded to: the FEAST that is KEPT on its DAY, not one that is MOVED there. */
    private static void yieldingToNoMovedOne() {
        FeastBook x = Texts.told(PLAIN_YEAR + ";feast 1 on 0 2 drop;feast 9 on 0 3 drop vigil 4;feast 9 on 0 1 drop"
            + ";feast 5 on 0 1 move");
        due("FEAST 3 is MOVED there", 3, () -> x.office(0, 2, 2));
        due("FEAST 0 is DROPPED", 3, () -> x.of(0, 0, 2));
        due("yields to none", 0, () -> x.yields(0, 3));
        due("nor to the one of the VIGIL", 0, () -> x.yields(0, 1));
        due("no rival", -1, () -> x.rival(0));
        due("it yielded to no FEAST", -1, () -> x.of(0, 0, 3));
        due("but to a VIGIL", 1, () -> x.of(0, 0, 4));
        due("they do not meet", 0, () -> x.meets(0));
        due("its DAY is elsewhere", 4, () -> x.meets(3));
        due("no MEETING there", 1, () -> x.year(0, 9));
        FeastBook octave = Texts.told(PLAIN_YEAR + ";feast 9 on 0 1 drop octave 4;feast 1 on 0 2 join");
        due("to an OCTAVE", 2, () -> octave.of(1, 0, 4));
        due("which is no FEAST", -1, () -> octave.of(1, 0, 3));
        due("nor a rival", -1, () -> octave.rival(1));
    }

    private static void better(String what, String lines, int feast, int day, int years) {
        FeastBook x = Texts.told(PLAIN_YEAR + lines);
        due("better, " + what + ", the day", day, () -> x.better(feast, 1, 0));
        due("better, " + what + ", YEARS", years, () -> x.better(feast, 1, 1));
    }

    /** BETTER: KEPT is what a CLAIM says, not its RANK alone. */
    private static void betterByClaims() {
        better("like RANK of a greater number", ";feast 5 on 0 2 drop;feast 5 on 0 2 drop;feast 5 on 0 1 drop", 1, 1, 1);
        better("like RANK of a lesser number",
            ";feast 5 on 0 2 drop;feast 5 on 0 1 drop;feast 5 on 0 3 drop;feast 5 on 0 2 drop", 3, 2, 0);
        better("MOVING ones of like RANK",
            ";feast 5 on 0 2 drop;feast 5 on 0 2 drop;feast 5 at -4 drop;feast 5 at -2 drop", 1, 2, 0);
        better("MOVING against FIXED of like RANK", ";feast 9 at -3 drop;feast 5 on 0 1 drop;feast 5 at -3 drop", 2, -4, 1);
        better("a SUNDAY of like RANK", ";rest 5;feast 9 at -1 drop;feast 9 at -2 drop;feast 5 at -1 drop", 2, 0, 1);
        better("a SUNDAY of more RANK", ";rest 6;feast 9 at -1 drop;feast 9 at -2 drop;feast 5 at -1 drop", 2, -1, 0);
        better("a VIGIL of like RANK", ";feast 5 on 0 3 drop;feast 9 on 0 3 drop vigil 5", 0, 2, 1);
        better("an OCTAVE of like RANK", ";feast 5 on 0 2 drop;feast 9 on 0 2 drop octave 5;feast 9 on 0 1 drop", 0, 3, 1);
        better("where another one would be MOVED to", ";feast 1 on 0 2 drop;feast 9 on 0 2 drop;feast 5 on 0 2 back", 0, 1, 1);
    }

    private static void alikeBothWays() {
        FeastBook x = Texts.told("book 5 10 leap 2 0 moon 1 0 0 1");
        int[][] pairs = {{0, 10, 1}, {0, 9, 0}, {0, 2, 0}, {1, 11, 1}, {9, 19, 1}, {8, 9998, 1}, {9, 9999, 1}, {9, 9998, 0}};
        for (int[] p : pairs) {
            due("alike " + p[0] + " " + p[1], p[2] == 1, () -> x.alike(p[0], p[1]));
            due("alike " + p[1] + " " + p[0], p[2] == 1, () -> x.alike(p[1], p[0]));
        }
    }

    /** WEIGHT: RANKS of the OFFICES, whatever KIND they are of. */
    private static void weights() {
        FeastBook x = Texts.told(PLAIN_YEAR + ";rest 3;feast 5 on 0 3 drop vigil 2 octave 1");
        row("RANKS", "3025131110", day -> x.office(0, day, 1));
        due("WEIGHT", 17, () -> x.year(0, 10));
        int[][] heaviest = {{1, 3, 5}, {2, 2, 7}, {3, 3, 9}, {4, 2, 11}, {5, 2, 12}, {6, 0, 14}, {10, 0, 17}};
        for (int[] h : heaviest) {
            due("heaviest " + h[0], h[1], () -> x.heaviest(0, h[0], false));
            due("WEIGHT of heaviest " + h[0], h[2], () -> x.heaviest(0, h[0], true));
        }
    }

    private static String whole(FeastBook x, int year, int feasts) {
        Seen seen = new Seen();
        for (int what = 0; what <= 10; what++) {
            int w = what;
            seen.ask(() -> x.year(year, w));
        }
        for (int day = 0; day < x.year(year, 0); day++) {
            int d = day;
            for (int what = 0; what < 3; what++) {
                int w = what;
                seen.ask(() -> x.day(year, d, w), () -> x.office(year, d, w), () -> x.base(year, d, w));
            }
            seen.ask(() -> x.day(year, d, 3), () -> x.fast(year, d), () -> x.lesson(year, d), () -> x.joined(year, d));
        }
        for (int feast = 0; feast < feasts; feast++) {
            int f = feast;
            seen.ask(() -> x.of(f, year, 0), () -> x.of(f, year, 1), () -> x.of(f, year, 2), () -> x.of(f, year, 3));
        }
        return seen.toString();
    }

    /** THE CYCLE: behind so many YEARS all is as it was; and ALIKE YEARS are the same from day to day. */
    private static void allIsAsItWas() {
        String lines = ";rest 3;fast 1;season -2 4 6;closed 3 4;feast 5 on 0 3 move vigil 2;feast 4 at 0 back octave 1"
            + ";feast 4 on 0 4 join;feast 9 at -3 move";
        String[] heads = {TURNING, "book 4 7 6 leap 3 1 moon 2 2 3 5", "book 5 9 leap 4 0 moon 3 0 2 3", "book 7 8 6 moon 5 1 2 4"};
        for (String head : heads) {
            FeastBook x = Texts.told(head + lines);
            int cycle = x.cycle();
            for (int year = 0; year < cycle; year++) {
                int y = year;
                String want = whole(x, year, 4);
                due(head + ": " + year + " and THE CYCLE later", want, () -> whole(x, y + cycle, 4));
                due(head + ": " + year + " and the last time", want, () -> whole(x, y + (9999 - y) / cycle * cycle, 4));
                for (int other = 0; other < year; other++) {
                    if (x.alike(year, other)) {
                        int o = other;
                        due(head + ": ALIKE are " + year + " and " + other, heart(x, year), () -> heart(x, o));
                    }
                }
            }
        }
    }

    /** All but FULL, which ALIKE YEARS need not share. */
    private static String heart(FeastBook x, int year) {
        return whole(x, year, 4).replaceFirst("^(\\S+ \\S+) \\S+", "$1");
    }

    /** An object is used for at most 512 calls: the last one still answers as the first one did. */
    private static void fiveHundredAndTwelve() {
        FeastBook x = Texts.told(EACH_FATE);
        String first = answers(x);
        for (int i = 0; i < 120; i++) {
            x.rank(i % 10, 1 + i % 9);
            x.put(0, 0, i % 10);
            x.undo();
            x.undo();
        }
        due("behind 480 calls", first, () -> answers(x));
    }

    private static String answers(FeastBook x) {
        return new Seen().ask(() -> x.leader(), () -> x.safe(0), () -> x.year(3, 10), () -> x.far(6), () -> x.count(8)).toString();
    }

    public static void main(String[] args) {
        eachFate();
        closedDays();
        vigilFasts();
        yieldingToNoMovedOne();
        betterByClaims();
        alikeBothWays();
        weights();
        allIsAsItWas();
        fiveHundredAndTwelve();
        CHECK.finish();
    }
}
