/**
 * The bounds that 'Terms' names for YEARS and for how one is RESOLVED, sentence by sentence.
 * PLAIN_YEAR has ten days, WEEK 5: SUNDAYS are 0 and 5, PASCH is 5, all YEARS are alike.
 * In TURNING SUNDAYS are 0 3 6 9, 2 5 8, 1 4 7 in YEARS 0, 1, 2, and PASCH is 3, 2, 1.
 */
public final class YearBoundsTest {
    private static final Check CHECK = new Check("YearBoundsTest");
    private static final String PLAIN_YEAR = "book 5 10 moon 1 0 0 1";
    private static final String TURNING = "book 3 5 5 moon 1 0 0 1";

    private static void due(String what, Object want, Check.Call call) {
        CHECK.due(what, want, call);
    }

    private interface Of {
        int day(int day);
    }

    /** One sign for each day: what is asked must be the figure there (- is NONE). */
    private static void row(String what, String want, Of of) {
        StringBuilder got = new StringBuilder();
        for (int day = 0; day < want.length(); day++) {
            int answer = of.day(day);
            got.append(answer == -1 ? "-" : answer);
        }
        due(what, want, () -> got.toString());
    }

    private static void kinds(String what, String want, FeastBook x, int year) {
        row(what + ", KIND of BASE", want, day -> x.base(year, day, 0));
    }

    private static void fate(String what, String text, int feast, int want) {
        FeastBook x = Texts.told(text);
        due(what + ": " + text, want, () -> x.of(feast, 0, 2));
    }

    /** Where a FEAST is in YEAR 0, or NONE. */
    private static void place(String what, String text, int feast, int want) {
        FeastBook x = Texts.told(text);
        due(what + ": " + text, want, () -> x.of(feast, 0, 1));
    }

    /** LEAP: each L-th YEAR, those that are multiples of L, a MONTH has one day more. */
    private static void leapYears() {
        for (int each = 2; each <= 9; each++) {
            FeastBook x = Texts.told("book 4 5 6 7 leap " + each + " 1 moon 1 0 0 1");
            int last = 9999 / each * each;
            int[] years = {0, 1, each - 1, each, each + 1, 2 * each, last - 1, last, 9999, 9998};
            for (int year : years) {
                int more = year % each == 0 ? 1 : 0;
                due("L " + each + ", the day more of " + year, more, () -> x.year(year, 6));
                due("L " + each + ", days of " + year, 18 + more, () -> x.year(year, 0));
                row("L " + each + ", MONTHS of " + year, more == 1 ? "0000011111112222222" : "000001111112222222",
                    day -> x.day(year, day, 0));
                row("L " + each + ", days of MONTHS of " + year, more == 1 ? "0123401234560123456" : "012340123450123456",
                    day -> x.day(year, day, 1));
                due("no more days", IndexOutOfBoundsException.class, () -> x.day(year, 18 + more, 0));
            }
        }
        FeastBook first = Texts.told("book 4 5 6 leap 2 0 moon 1 0 0 1;feast 1 on 0 4 drop;feast 1 on 1 0 drop");
        row("the first MONTH is longer", "000000111111", day -> first.day(0, day, 0));
        row("and not in YEAR 1", "00000111111", day -> first.day(1, day, 0));
        due("a FEAST ahead of the day more", 4, () -> first.of(0, 0, 0));
        due("a FEAST behind it", 6, () -> first.of(1, 0, 0));
        due("in YEAR 1", 5, () -> first.of(1, 1, 0));
        FeastBook last = Texts.told("book 4 5 6 leap 2 1 moon 1 0 0 1;feast 1 on 1 5 move");
        row("the last MONTH is longer", "000001111111", day -> last.day(0, day, 0));
        due("the last day told is not the last one of the YEAR", 10, () -> last.of(0, 0, 0));
        FeastBook most = Texts.told("book 4 31 leap 2 0 moon 1 0 0 1");
        due("a MONTH of 32 days", 31, () -> most.day(0, 31, 1));
        FeastBook both = Texts.told("book 4 31 31 leap 2 0 moon 1 0 0 1");
        due("MONTH 1 begins behind them", 1, () -> both.day(0, 32, 0));
        due("with its day 0", 0, () -> both.day(0, 32, 1));
        due("a YEAR earlier without LEAP", 1, () -> both.day(1, 31, 0));
    }

    /** WEEKDAY of the first day of YEAR 0 is 0, and they run on. */
    private static void weekdays() {
        for (int week = 3; week <= 9; week++) {
            FeastBook x = Texts.told("book " + week + " 12 11 leap 3 0 moon 1 0 0 1");
            int ahead = 0;
            for (int year = 0; year <= 9999; year++) {
                int length = year % 3 == 0 ? 24 : 23;
                if (year < 25 || year > 9974) {
                    int first = ahead % week;
                    int last = (ahead + length - 1) % week;
                    int y = year;
                    due("WEEK " + week + ", WEEKDAY at first of " + year, first, () -> x.year(y, 1));
                    due("WEEK " + week + ", WEEKDAY of day 0 of " + year, first, () -> x.day(y, 0, 2));
                    due("WEEK " + week + ", WEEKDAY of the last day of " + year, last, () -> x.day(y, length - 1, 2));
                }
                ahead += length;
            }
        }
        FeastBook x = Texts.told(TURNING);
        row("WEEKDAYS of YEAR 0", "0120120120", day -> x.day(0, day, 2));
        row("WEEKDAYS of YEAR 1", "1201201201", day -> x.day(1, day, 2));
        row("WEEKDAYS of YEAR 2", "2012012012", day -> x.day(2, day, 2));
        kinds("a day of WEEKDAY 0 is a SUNDAY", "0030030030", x, 1);
        kinds("the first day of YEAR 0 is one", "3003003003", x, 0);
    }

    /** FULL: FIRST and what is left of STEP times (what is left of the YEAR by CYCLE) by SPAN, together. */
    private static void full() {
        FeastBook x = Texts.told("book 3 31 moon 4 2 5 10");
        row("FULL, SPAN reached is none left", "27272727", year -> x.year(year, 2));
        FeastBook y = Texts.told("book 3 31 moon 3 0 4 9");
        row("FULL, one short of SPAN", "048048048", year -> y.year(year, 2));
        FeastBook z = Texts.told("book 3 31 moon 19 0 1 9");
        row("FULL, from the last YEAR of CYCLE to the first", "012345678012345678001234", year -> z.year(year, 2));
        FeastBook one = Texts.told("book 3 31 moon 1 7 30 20");
        row("FULL, CYCLE 1", "7777", year -> one.year(year, 2));
        FeastBook none = Texts.told("book 3 31 moon 19 7 0 20");
        row("FULL, STEP 0", "7777", year -> none.year(year * 7, 2));
        FeastBook span = Texts.told("book 3 31 moon 19 7 30 1");
        row("FULL, SPAN 1", "7777", year -> span.year(year * 7, 2));
        FeastBook most = Texts.told("book 9 31 31 31 31 31 moon 19 99 30 29");
        due("FULL of YEAR 18", 99 + 30 * 18 % 29, () -> most.year(18, 2));
        due("FULL of YEAR 19", 99, () -> most.year(19, 2));
        due("FULL of YEAR 9999", 99 + 30 * (9999 % 19) % 29, () -> most.year(9999, 2));
    }

    /** PASCH: the first SUNDAY behind that day. */
    private static void pasch() {
        int[][] firstAndPasch = {{0, 5}, {1, 5}, {4, 5}, {5, 10}, {6, 10}, {9, 10}, {10, 15}};
        for (int[] pair : firstAndPasch) {
            FeastBook x = Texts.told("book 5 20 moon 1 " + pair[0] + " 0 1");
            due("PASCH with FULL " + pair[0], pair[1], () -> x.year(0, 3));
            due("PASCH is a SUNDAY", 0, () -> x.day(0, pair[1], 2));
        }
        FeastBook last = Texts.told("book 5 11 moon 1 5 0 1;feast 1 at 0 drop;feast 1 at 1 drop;feast 1 at -10 drop");
        due("PASCH on the last day", 10, () -> last.year(0, 3));
        due("a FEAST there", 10, () -> last.of(0, 0, 1));
        due("none behind it", 5, () -> last.of(1, 0, 2));
        due("one on the first day", 0, () -> last.of(2, 0, 1));
        row("all LESSONS are ahead of it", "-0123-4567-", day -> last.lesson(0, day));
        FeastBook x = Texts.told(TURNING);
        row("PASCH by WEEKDAY at first", "321321", year -> x.year(year, 3));
    }

    /** SEASONS: both days belong to it; of the last one told that has the day; REST elsewhere. */
    private static void seasons() {
        String year = "book 3 30 moon 1 11 0 1;rest 5";
        row("REST, 0 at first", "000", i -> Texts.told("book 3 30 moon 1 11 0 1").base(0, 3 * i, 1));
        row("REST", "5555555555", i -> Texts.told(year).base(0, 3 * i, 1));
        row("from one day to another one", "5554445555", i -> Texts.told(year + ";season -3 3 4").base(0, 3 * i, 1));
        row("a day less on both sides", "5555455555", i -> Texts.told(year + ";season -2 2 4").base(0, 3 * i, 1));
        row("a day less at first", "5555445555", i -> Texts.told(year + ";season -2 3 4").base(0, 3 * i, 1));
        row("one day alone", "5555455555", i -> Texts.told(year + ";season 0 0 4").base(0, 3 * i, 1));
        row("the last one told", "5554667555", i -> Texts.told(year + ";season -3 3 4;season 0 6 7;season 0 3 6").base(0, 3 * i, 1));
        row("the last one told, the other way", "5554445555",
            i -> Texts.told(year + ";season 0 3 6;season -3 3 4").base(0, 3 * i, 1));
        row("RANK 0, too", "5550005555", i -> Texts.told(year + ";season -3 3 0").base(0, 3 * i, 1));
        row("the fourth of four", "5553335555",
            i -> Texts.told(year + ";season -3 3 1;season -3 3 2;season -3 3 9;season -3 3 3").base(0, 3 * i, 1));
        row("beyond the YEAR on both sides", "4444444444", i -> Texts.told(year + ";season -99 99 4").base(0, 3 * i, 1));
        FeastBook x = Texts.told(year + ";season -99 99 4");
        kinds("no other days have it", "300300300", x, 0);
        row("their RANK", "400400400", day -> x.base(0, day, 1));
    }

    /** CLOSED: from one day to another one, likewise. */
    private static void closed() {
        FeastBook x = Texts.told(PLAIN_YEAR + ";closed -3 -2;closed 1 1;closed 3 99");
        row("CLOSED", "0011001011", day -> x.day(0, day, 3));
        row("CLOSED in the last YEAR", "0011001011", day -> x.day(9999, day, 3));
        FeastBook y = Texts.told(PLAIN_YEAR + ";closed -99 -5;closed 4 4;closed 5 99;closed -1 0");
        row("CLOSED at the ends", "1000110001", day -> y.day(0, day, 3));
        FeastBook none = Texts.told(PLAIN_YEAR + ";closed -99 -6;closed 5 99");
        row("CLOSED outside alone", "0000000000", day -> none.day(0, day, 3));
        FeastBook turning = Texts.told(TURNING + ";closed 0 1");
        row("CLOSED goes with PASCH", "0001100000", day -> turning.day(0, day, 3));
        row("CLOSED goes with PASCH", "0011000000", day -> turning.day(1, day, 3));
        row("CLOSED goes with PASCH", "0110000000", day -> turning.day(2, day, 3));
    }

    /** A MOVING one whose day is not in the YEAR is ABSENT. */
    private static void absent() {
        int[][] daysAndFates = {{-99, 5}, {-6, 5}, {-5, 0}, {4, 0}, {5, 5}, {99, 5}};
        for (int[] pair : daysAndFates) {
            FeastBook x = Texts.told(PLAIN_YEAR + ";feast 1 at " + pair[0] + " move vigil 9 octave 9");
            boolean gone = pair[1] == 5;
            due("FATE at " + pair[0], pair[1], () -> x.of(0, 0, 2));
            due("DAY at " + pair[0], gone ? -1 : pair[0] + 5, () -> x.of(0, 0, 0));
            due("place at " + pair[0], gone ? -1 : pair[0] + 5, () -> x.of(0, 0, 1));
            due("it yielded to none at " + pair[0], -1, () -> x.of(0, 0, 4));
            if (gone) {
                kinds("no VIGIL, no OCTAVE of an ABSENT one", "3000030000", x, 0);
            }
        }
        FeastBook leap = Texts.told("book 5 10 leap 2 0 moon 1 0 0 1;feast 1 at 5 move");
        due("in the YEAR with the day more", 10, () -> leap.of(0, 0, 0));
        due("in YEAR 1, where PASCH is 4", 9, () -> leap.of(0, 1, 0));
        due("and in YEAR 10, where PASCH is 5", 10, () -> leap.of(0, 10, 0));
        due("but not in YEAR 9, where it is 5 as well", 5, () -> leap.of(0, 9, 2));
    }

    /** VIGIL: the day ahead of its DAY; if that is a SUNDAY, the one ahead of that; none outside the YEAR. */
    private static void vigils() {
        String[] rows = {"3000030000", "3000030000", "3100030000", "3010030000", "3001030000", "3000130000", "3000130000",
            "3000031000", "3000030100", "3000030010"};
        for (int day = 0; day < 10; day++) {
            FeastBook x = Texts.told(PLAIN_YEAR + ";feast 1 on 0 " + day + " drop vigil 2");
            kinds("VIGIL of day " + day, rows[day], x, 0);
        }
        String[] second = {"0030030030", "1030030030", "0130030030", "0130030030"};
        String[] third = {"0300300300", "1300300300", "1300300300", "0310300300"};
        for (int day = 0; day < 4; day++) {
            FeastBook x = Texts.told(TURNING + ";feast 1 on 0 " + day + " drop vigil 2");
            kinds("VIGIL of day " + day + " in YEAR 1", second[day], x, 1);
            kinds("VIGIL of day " + day + " in YEAR 2", third[day], x, 2);
        }
        FeastBook last = Texts.told("book 5 11 moon 1 0 0 1;feast 1 on 0 0 drop vigil 2");
        kinds("none on the last day of the YEAR ahead", "00003000030", last, 1);
        FeastBook dropped = Texts.told(PLAIN_YEAR + ";feast 9 on 0 3 drop;feast 1 on 0 3 drop vigil 2");
        kinds("whatever becomes of the FEAST", "3010030000", dropped, 0);
        FeastBook moved = Texts.told(PLAIN_YEAR + ";feast 9 on 0 3 drop;feast 1 on 0 3 move vigil 2");
        kinds("by DAY, not by where it is MOVED", "3010030000", moved, 0);
        FeastBook without = Texts.told(PLAIN_YEAR + ";feast 9 on 0 3 drop");
        kinds("of a FEAST with one alone", "3000030000", without, 0);
    }

    /** OCTAVE: the WEEK days behind its DAY; what falls out of the YEAR is not. */
    private static void octaves() {
        String[] rows = {"32222200003000", "30222220003000", "30022222003000", "30000222223000", "30000322222000"};
        int[] days = {0, 1, 2, 4, 5};
        for (int i = 0; i < days.length; i++) {
            FeastBook x = Texts.told("book 5 14 moon 1 0 0 1;feast 1 on 0 " + days[i] + " drop octave 2");
            kinds("OCTAVE of day " + days[i], rows[i], x, 0);
        }
        FeastBook end = Texts.told(PLAIN_YEAR + ";feast 1 on 0 7 drop octave 2");
        kinds("OCTAVE up to the last day", "3000030022", end, 0);
        kinds("none of it in the next YEAR", "3000030022", end, 1);
        FeastBook last = Texts.told(PLAIN_YEAR + ";feast 1 on 0 9 drop octave 2");
        kinds("none behind the last day", "3000030000", last, 0);
        FeastBook dropped = Texts.told(PLAIN_YEAR + ";feast 9 on 0 1 drop;feast 1 on 0 1 move octave 2");
        kinds("by DAY, whatever becomes of the FEAST", "3022222000", dropped, 0);
        FeastBook nine = Texts.told("book 9 31 moon 1 0 0 1;feast 1 on 0 1 drop octave 2");
        kinds("WEEK of nine days", "3022222222200", nine, 0);
        FeastBook three = Texts.told("book 3 31 moon 1 0 0 1;feast 1 on 0 1 drop octave 2");
        kinds("WEEK of three days", "302220300", three, 0);
    }

    /** A CLAIM is greater by RANK, of like ones by KIND, of these MOVING ahead of FIXED, of these the lesser number. */
    private static void claims() {
        String year = "book 5 20 moon 1 0 0 1";
        FeastBook rank = Texts.told(year + ";feast 1 on 0 3 drop vigil 3;feast 1 on 0 1 drop octave 2");
        due("a VIGIL of more RANK is above an OCTAVE", 1, () -> rank.base(0, 2, 0));
        FeastBook like = Texts.told(year + ";feast 1 on 0 3 drop vigil 2;feast 1 on 0 1 drop octave 2");
        due("an OCTAVE of like RANK is above a VIGIL", 2, () -> like.base(0, 2, 0));
        FeastBook less = Texts.told(year + ";rest 2;feast 1 on 0 4 drop octave 3");
        due("an OCTAVE of more RANK is above a SUNDAY", 2, () -> less.base(0, 5, 0));
        FeastBook sunday = Texts.told(year + ";rest 3;feast 1 on 0 4 drop octave 3");
        due("a SUNDAY of like RANK is above an OCTAVE", 3, () -> sunday.base(0, 5, 0));
        due("and has no FEAST", -1, () -> sunday.base(0, 5, 2));
        FeastBook plain = Texts.told(year);
        due("a SUNDAY of RANK 0 is above plain", 3, () -> plain.base(0, 5, 0));
        due("plain has RANK 0", 0, () -> plain.base(0, 6, 1));
        due("plain has no FEAST", -1, () -> plain.base(0, 6, 2));
        FeastBook moving = Texts.told(year + ";feast 1 on 0 8 drop vigil 2;feast 1 at 3 drop vigil 2");
        due("VIGIL of a MOVING one", 1, () -> moving.base(0, 7, 2));
        FeastBook fixed = Texts.told(year + ";feast 1 on 0 8 drop vigil 3;feast 1 at 3 drop vigil 2");
        due("VIGIL of more RANK", 0, () -> fixed.base(0, 7, 2));
        FeastBook number = Texts.told(year + ";feast 1 at 2 drop octave 2;feast 1 at 3 drop octave 2");
        due("OCTAVE of the lesser number", 0, () -> number.base(0, 9, 2));
        FeastBook numbers = Texts.told(year + ";feast 1 on 0 7 drop octave 2;feast 1 on 0 6 drop octave 2");
        due("OCTAVE of the lesser number, FIXED", 0, () -> numbers.base(0, 9, 2));
        due("where one is alone", 1, () -> numbers.base(0, 7, 2));
    }

    /** KEPT, if its CLAIM is greater than BASE of its DAY, and no other one is KEPT there. */
    private static void kept() {
        fate("SUNDAY of a lesser RANK", PLAIN_YEAR + ";rest 4;feast 5 at 0 drop", 0, 0);
        fate("SUNDAY of like RANK", PLAIN_YEAR + ";rest 5;feast 5 at 0 drop", 0, 0);
        fate("SUNDAY of more RANK", PLAIN_YEAR + ";rest 6;feast 5 at 0 drop", 0, 3);
        fate("RANK 1 on a SUNDAY of 0", PLAIN_YEAR + ";feast 1 at 0 drop", 0, 0);
        fate("RANK 9 on a SUNDAY of 9", PLAIN_YEAR + ";rest 9;feast 9 at 0 drop", 0, 0);
        fate("OCTAVE of like RANK", PLAIN_YEAR + ";feast 1 on 0 1 drop octave 5;feast 5 on 0 2 drop", 1, 0);
        fate("OCTAVE of more RANK", PLAIN_YEAR + ";feast 1 on 0 1 drop octave 6;feast 5 on 0 2 drop", 1, 3);
        fate("VIGIL of like RANK", PLAIN_YEAR + ";feast 1 on 0 3 drop vigil 5;feast 5 on 0 2 drop", 1, 0);
        fate("VIGIL of more RANK", PLAIN_YEAR + ";feast 1 on 0 3 drop vigil 6;feast 5 on 0 2 drop", 1, 3);
        fate("the greater FEAST", PLAIN_YEAR + ";feast 5 on 0 2 drop;feast 4 on 0 2 drop", 0, 0);
        fate("the lesser FEAST", PLAIN_YEAR + ";feast 5 on 0 2 drop;feast 4 on 0 2 drop", 1, 3);
        fate("the greater number", PLAIN_YEAR + ";feast 5 on 0 2 drop;feast 5 on 0 2 drop", 1, 3);
        fate("FIXED against MOVING", PLAIN_YEAR + ";feast 5 on 0 2 drop;feast 5 at -3 drop", 0, 3);
        fate("its own VIGIL and OCTAVE hinder it not", PLAIN_YEAR + ";feast 1 on 0 2 drop vigil 9 octave 9", 0, 0);
        FeastBook x = Texts.told(PLAIN_YEAR + ";rest 9;feast 5 at 0 drop;feast 4 at 0 drop");
        due("on a greater SUNDAY no one", 2, () -> x.tally(0, 3));
        due("it yielded to no FEAST", -1, () -> x.of(1, 0, 3));
        due("but to a SUNDAY", 3, () -> x.of(1, 0, 4));
    }

    /** move: the first day of the REACH days behind its DAY that is in the YEAR, not CLOSED, free, of a lesser BASE. */
    private static void move() {
        String two = ";feast 9 on 0 1 drop;feast 5 on 0 1 move";
        String year = "book 9 31 moon 1 0 0 1";
        place("the next day", year + two, 1, 2);
        place("REACH 1", year + ";reach 1" + two, 1, 2);
        place("the last of the REACH days", year + ";reach 3;closed -7 -6" + two, 1, 4);
        place("not one behind them", year + ";reach 3;closed -7 -5" + two, 1, -1);
        fate("then it is LEFT", year + ";reach 3;closed -7 -5" + two, 1, 4);
        place("REACH 60 to the YEAR's last day", year + ";reach 60;closed -7 20" + two, 1, 30);
        place("not beyond the YEAR", year + ";reach 60;closed -7 99" + two, 1, -1);
        place("the first day that is not CLOSED", year + ";closed -7 0" + two, 1, 10);
        place("ahead of a CLOSED time", year + ";closed -6 0" + two, 1, 2);
        place("not where one is KEPT", year + two + ";feast 1 on 0 2 drop", 1, 3);
        place("not where one is MOVED", year + two + ";feast 6 on 0 1 move", 1, 3);
        place("but where one is DROPPED", year + two + ";feast 1 on 0 3 drop vigil 4;feast 3 on 0 2 drop", 1, 2);
        place("and where one is JOINED", year + two + ";feast 1 on 0 3 drop vigil 4;feast 3 on 0 2 join", 1, 2);
        place("and where one is LEFT", year + ";reach 1" + two + ";feast 1 on 0 3 drop vigil 4;feast 3 on 0 2 move", 1, 2);
        place("the greater one goes first", year + two + ";feast 6 on 0 1 move", 2, 2);
        place("of like RANK the lesser number", year + two + ";feast 5 on 0 1 move", 2, 3);
        place("of like RANK the MOVING one", year + two + ";feast 5 at -8 move", 1, 3);
        place("BASE of a lesser RANK", year + two + ";feast 1 on 0 3 drop vigil 4", 1, 2);
        place("not BASE of like RANK", year + two + ";feast 1 on 0 3 drop vigil 5", 1, 4);
        place("not a SUNDAY of like RANK", year + ";rest 5;closed -7 -1" + two, 1, 10);
        place("a SUNDAY of a lesser RANK", year + ";rest 4;closed -7 -1" + two, 1, 9);
        place("RANK 1 to a plain day", year + two.replace("feast 5", "feast 1"), 1, 2);
        place("from the last day on, none", PLAIN_YEAR + ";feast 9 on 0 9 drop;feast 5 on 0 9 move", 1, -1);
        fate("from the last day on, LEFT", PLAIN_YEAR + ";feast 9 on 0 9 drop;feast 5 on 0 9 move", 1, 4);
        place("from the day ahead of it", PLAIN_YEAR + ";feast 9 on 0 8 drop;feast 5 on 0 8 move", 1, 9);
        place("not on its DAY", PLAIN_YEAR + ";rest 9;feast 5 at 0 move", 0, 6);
        place("20 at first", year.replace("31", "31 31") + ";closed -7 11" + two, 1, 21);
        place("not 21 at first", year.replace("31", "31 31") + ";closed -7 12" + two, 1, -1);
    }

    /** back: likewise, of the REACH days ahead of it, the nearest first. */
    private static void backwards() {
        String two = ";feast 9 on 0 29 drop;feast 5 on 0 29 back";
        String year = "book 9 31 moon 1 0 0 1";
        place("the day ahead", year + two, 1, 28);
        place("the last of the REACH days", year + ";reach 3;closed 18 19" + two, 1, 26);
        place("not one ahead of them", year + ";reach 3;closed 17 19" + two, 1, -1);
        fate("then it is LEFT", year + ";reach 3;closed 17 19" + two, 1, 4);
        place("REACH 60 to day 0", year + ";reach 60;closed -8 19" + two, 1, 0);
        place("not ahead of the YEAR", year + ";reach 60;closed -9 19" + two, 1, -1);
        place("from day 1 to day 0", PLAIN_YEAR + ";feast 9 on 0 1 drop;feast 5 on 0 1 back", 1, 0);
        place("from day 0, none", PLAIN_YEAR + ";feast 9 on 0 0 drop;feast 5 on 0 0 back", 1, -1);
        fate("from day 0, LEFT", PLAIN_YEAR + ";feast 9 on 0 0 drop;feast 5 on 0 0 back", 1, 4);
        place("not BASE of like RANK", PLAIN_YEAR + ";rest 5;feast 9 on 0 1 drop;feast 5 on 0 1 back", 1, -1);
        place("BASE of a lesser RANK", PLAIN_YEAR + ";rest 4;feast 9 on 0 1 drop;feast 5 on 0 1 back", 1, 0);
        place("not where one is KEPT", year + two + ";feast 1 on 0 28 drop", 1, 27);
        place("not where one is MOVED", year + two + ";feast 6 on 0 27 move;feast 9 on 0 27 drop", 1, 26);
        place("nor where one went back", year + two + ";feast 6 on 0 29 back", 1, 27);
    }

    /** join: JOINED to its DAY; if two are already, DROPPED. drop: DROPPED. */
    private static void joining() {
        String three = PLAIN_YEAR + ";feast 9 on 0 2 drop;feast 1 on 0 2 join;feast 2 on 0 2 join;feast 3 on 0 2 join";
        FeastBook x = Texts.told(three + ";feast 8 on 0 3 move;feast 1 on 0 3 join;feast 1 on 0 3 join;feast 2 on 0 2 drop");
        int[] fates = {0, 3, 2, 2, 0, 2, 2, 3};
        for (int i = 0; i < fates.length; i++) {
            int feast = i;
            due("FATE of " + i, fates[i], () -> x.of(feast, 0, 2));
            due("place of " + i, i == 0 ? 2 : i == 4 ? 3 : -1, () -> x.of(feast, 0, 1));
            due("it yielded to, of " + i, i == 0 || i == 4 ? -1 : i == 5 || i == 6 ? 4 : 0, () -> x.of(feast, 0, 3));
        }
        due("two to the day", 12, () -> x.joined(0, 2));
        due("two to the other day", 96, () -> x.joined(0, 3));
        due("none to a third day", 0, () -> x.joined(0, 4));
        due("JOINED", 4, () -> x.tally(0, 2));
        due("DROPPED", 2, () -> x.tally(0, 3));
        FeastBook last = Texts.told(PLAIN_YEAR + ";feast 9 on 0 9 drop" + ";feast 1 on 0 2 drop".repeat(9)
            + ";feast 1 on 0 9 join".repeat(2));
        due("the eleventh and the twelfth, to the last day", 3072, () -> last.joined(0, 9));
        x.law(2, 3);
        due("one fewer: the third one has room", 10, () -> x.joined(0, 2));
    }

    /** A FAST: no SUNDAY; WEEKDAY FASTING or the VIGIL of a KEPT one; OFFICE no FEAST with RANK LIFT or above. */
    private static void fasts() {
        FeastBook all = Texts.told(PLAIN_YEAR + ";fast 0;fast 1;fast 2;fast 3;fast 4");
        row("all WEEKDAYS, but for SUNDAYS", "0111101111", day -> all.fast(0, day) ? 1 : 0);
        FeastBook none = Texts.told(PLAIN_YEAR);
        row("none", "0000000000", day -> none.fast(0, day) ? 1 : 0);
        FeastBook lift = Texts.told(PLAIN_YEAR + ";fast 2;feast 4 on 0 2 drop;feast 5 on 0 7 drop");
        row("LIFT 5 at first", "0010000000", day -> lift.fast(0, day) ? 1 : 0);
        FeastBook told = Texts.told(PLAIN_YEAR + ";fast 2;lift 9;feast 8 on 0 2 drop;feast 9 on 0 7 drop");
        row("LIFT 9", "0010000000", day -> told.fast(0, day) ? 1 : 0);
        FeastBook one = Texts.told(PLAIN_YEAR + ";fast 2;lift 1;feast 1 on 0 2 drop");
        row("LIFT 1", "0000000100", day -> one.fast(0, day) ? 1 : 0);
        FeastBook moved = Texts.told(PLAIN_YEAR + ";fast 2;feast 9 on 0 1 drop;feast 5 on 0 1 move");
        row("a MOVED FEAST lifts it", "0000000100", day -> moved.fast(0, day) ? 1 : 0);
        FeastBook octave = Texts.told(PLAIN_YEAR + ";fast 2;lift 1;feast 9 on 0 1 drop octave 9");
        row("an OCTAVE lifts nothing", "0010000100", day -> octave.fast(0, day) ? 1 : 0);
        FeastBook vigil = Texts.told(PLAIN_YEAR + ";feast 9 on 0 3 drop vigil 1;feast 9 on 0 7 drop;feast 8 on 0 7 move vigil 9"
            + ";feast 9 on 0 9 join vigil 1;feast 1 on 0 8 drop");
        row("VIGIL of a KEPT one alone, also below its OFFICE", "0010000010", day -> vigil.fast(0, day) ? 1 : 0);
        FeastBook both = Texts.told(PLAIN_YEAR + ";feast 9 on 0 3 drop vigil 1;feast 5 on 0 2 drop");
        row("LIFT of a VIGIL", "0000000000", day -> both.fast(0, day) ? 1 : 0);
        FeastBook under = Texts.told(PLAIN_YEAR + ";feast 9 on 0 3 drop vigil 1;feast 4 on 0 2 drop");
        row("no LIFT of a VIGIL", "0010000000", day -> under.fast(0, day) ? 1 : 0);
        FeastBook hidden = Texts.told(PLAIN_YEAR + ";feast 9 on 0 3 drop vigil 1;feast 9 on 0 1 drop octave 9");
        row("a VIGIL under an OCTAVE", "0010000000", day -> hidden.fast(0, day) ? 1 : 0);
    }

    /** LESSON: how many such days ahead of it, from the first day on, or, from PASCH on, from PASCH on. */
    private static void lessons() {
        FeastBook x = Texts.told(PLAIN_YEAR);
        row("LESSONS", "-0123-0123", day -> x.lesson(0, day));
        FeastBook y = Texts.told(TURNING);
        row("from the first day on", "01-01-23-4", day -> y.lesson(1, day));
        row("PASCH is 1", "0-01-23-45", day -> y.lesson(2, day));
        FeastBook z = Texts.told(PLAIN_YEAR + ";feast 1 on 0 4 drop;feast 1 on 0 6 drop octave 1");
        row("none of other days", "-012------", day -> z.lesson(0, day));
    }

    public static void main(String[] args) {
        leapYears();
        weekdays();
        full();
        pasch();
        seasons();
        closed();
        absent();
        vigils();
        octaves();
        claims();
        kept();
        move();
        backwards();
        joining();
        fasts();
        lessons();
        CHECK.finish();
    }
}
