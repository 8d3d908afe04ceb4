import java.util.Arrays;
import java.util.NoSuchElementException;

/** A book of feasts for years of its own; ../shared/DOC.md says what each call answers. */
public final class FeastBook {
    public static final int NONE = -1;

    private static final int LAST_YEAR = 9999;
    private static final int TAPE_MOST = 400;
    private static final int FEED_BYTES = 20;
    private static final int MONTHS_MOST = 8;
    private static final int MONTH_DAYS_MOST = 31;
    private static final int DAYS_MOST = MONTHS_MOST * MONTH_DAYS_MOST + 1;
    private static final int FEASTS_MOST = 12;
    private static final int SPANS_MOST = 4;
    private static final int LINES_MOST = 24;
    private static final int PAST_MOST = 8;
    private static final int REACH_MOST = 60;
    private static final int RANK_MOST = 9;
    private static final int TELL_MOST = 99;
    private static final int RUN_MOST = 60;
    private static final int SHIFT_MOST = 5;
    private static final int REACH_AT_FIRST = 20;
    private static final int LIFT_AT_FIRST = 5;

    private static final int PLAIN = 0;
    private static final int VIGIL = 1;
    private static final int OCTAVE = 2;
    private static final int SUNDAY = 3;
    private static final int FEAST = 4;

    private static final int KEPT = 0;
    private static final int MOVED = 1;
    private static final int JOINED = 2;
    private static final int DROPPED = 3;
    private static final int LEFT = 4;
    private static final int ABSENT = 5;

    private static final int MOVE = 0;
    private static final int BACK = 1;
    private static final int JOIN = 2;
    private static final int DROP = 3;

    private static final int CHANGED_RANK = 0;
    private static final int CHANGED_LAW = 1;
    private static final int CHANGED_DAY = 2;
    private static final int CHANGED_REACH = 3;

    // PASCH tells the WEEKDAY of the first day, so that LEAP and PASCH together tell a sort of YEARS;
    // PASCH is at most SPAN and WEEK (30 and 9) behind FIRST.
    private static final int SORTS_OF_ONE_LENGTH = 40;
    private static final int SORTS_MOST = 2 * SORTS_OF_ONE_LENGTH;

    private final Tape tape;
    private final Reader reader;
    private final Book now;
    private final Book kept;
    private final Past past;
    private final YearPlan plan;
    private final Round round;
    private boolean hasImage;
    private int wrongByte;

    public FeastBook() {
        tape = new Tape();
        reader = new Reader(tape);
        now = new Book();
        kept = new Book();
        past = new Past();
        plan = new YearPlan(now);
        round = new Round(now, plan);
        hasImage = false;
        wrongByte = NONE;
    }

    public int feed(int a, int b, int c, int d, int e) {
        if (!tape.hasRoom()) {
            return NONE;
        }
        tape.add(a);
        tape.add(b);
        tape.add(c);
        tape.add(d);
        tape.add(e);
        return tape.size;
    }

    public boolean end(int n) {
        if (n < 0 || n > tape.size) {
            return false;
        }
        tape.size = n;
        return true;
    }

    public int book() throws IllegalArgumentException {
        wrongByte = reader.read();
        tape.size = 0;
        if (wrongByte != NONE) {
            throw new IllegalArgumentException("the text is wrong");
        }
        takeOver(reader.draft);
        return now.feasts.size;
    }

    public int fault() {
        return wrongByte;
    }

    public int year(int year, int what) throws IndexOutOfBoundsException, NoSuchElementException {
        checkYear(year);
        checkWhat(what, 10);
        switch (what) {
            case 0: return now.daysOf(year);
            case 1: return now.firstWeekday(year);
            case 2: return now.fullOf(year);
            case 3: return now.paschOf(year);
            case 6: return now.isLeap(year) ? 1 : 0;
            default: return settledYear(year).measure(what);
        }
    }

    public int day(int year, int day, int what) throws IndexOutOfBoundsException, NoSuchElementException {
        checkDay(year, day);
        checkWhat(what, 3);
        int sort = now.sortOf(year);
        switch (what) {
            case 0: return now.monthOf(sort, day);
            case 1: return day - now.monthStart(sort, now.monthOf(sort, day));
            case 2: return now.weekdayFrom(now.paschOf(year), day);
            default: return now.closed.lastWith(day - now.paschOf(year)) == NONE ? 0 : 1;
        }
    }

    public int office(int year, int day, int what) throws IndexOutOfBoundsException, NoSuchElementException {
        checkDay(year, day);
        checkWhat(what, 2);
        return Claims.tell(settledYear(year).office[day], what);
    }

    public int base(int year, int day, int what) throws IndexOutOfBoundsException, NoSuchElementException {
        checkDay(year, day);
        checkWhat(what, 2);
        return Claims.tell(settledYear(year).base[day], what);
    }

    public boolean fast(int year, int day) throws IndexOutOfBoundsException {
        checkDay(year, day);
        return settledYear(year).isFast(day);
    }

    public int lesson(int year, int day) throws IndexOutOfBoundsException {
        checkDay(year, day);
        YearPlan settled = settledYear(year);
        if (!settled.isPlain(day)) {
            return NONE;
        }
        return settled.plainDays(day >= settled.pasch ? settled.pasch : 0, day);
    }

    public int joined(int year, int day) throws IndexOutOfBoundsException {
        checkDay(year, day);
        return settledYear(year).joinedTo(day);
    }

    public int feast(int feast, int what) throws IndexOutOfBoundsException, NoSuchElementException {
        checkFeast(feast);
        checkWhat(what, 6);
        Feasts feasts = now.feasts;
        switch (what) {
            case 0: return feasts.ranks[feast];
            case 1: return feasts.isMoving(feast) ? 1 : 0;
            case 2: return feasts.months[feast];
            case 3: return feasts.days[feast];
            case 4: return feasts.laws[feast];
            case 5: return feasts.vigils[feast];
            default: return feasts.octaves[feast];
        }
    }

    public int of(int feast, int year, int what) throws IndexOutOfBoundsException, NoSuchElementException {
        checkFeast(feast);
        checkYear(year);
        checkWhat(what, 4);
        YearPlan settled = settledYear(year);
        switch (what) {
            case 0: return settled.dayOf[feast];
            case 1: return settled.placeOf[feast];
            case 2: return settled.fateOf[feast];
            case 3: return settled.yieldedTo(feast);
            default: return settled.kindYieldedTo(feast);
        }
    }

    public int rank(int feast, int n) throws IndexOutOfBoundsException, IllegalArgumentException {
        checkFeast(feast);
        checkNumber(n, 1, RANK_MOST);
        int was = now.feasts.ranks[feast];
        past.remember(CHANGED_RANK, feast, NONE, was);
        tellRank(feast, n);
        return was;
    }

    public int law(int feast, int n) throws IndexOutOfBoundsException, IllegalArgumentException {
        checkFeast(feast);
        checkNumber(n, MOVE, DROP);
        int was = now.feasts.laws[feast];
        past.remember(CHANGED_LAW, feast, NONE, was);
        tellLaw(feast, n);
        return was;
    }

    public int put(int feast, int month, int day) throws IndexOutOfBoundsException, IllegalArgumentException {
        checkFeast(feast);
        if (now.feasts.isMoving(feast) != (month == NONE) || !now.canTell(month, day)) {
            throw new IllegalArgumentException("no such month or day");
        }
        int oldMonth = now.feasts.months[feast];
        int oldDay = now.feasts.days[feast];
        past.remember(CHANGED_DAY, feast, oldMonth, oldDay);
        tellDay(feast, month, day);
        return oldMonth != month || oldDay != day ? 1 : 0;
    }

    public int reach(int n) throws IllegalStateException, IllegalArgumentException {
        checkBook();
        checkNumber(n, 1, REACH_MOST);
        int was = now.reach;
        past.remember(CHANGED_REACH, NONE, NONE, was);
        tellReach(n);
        return was;
    }

    public int undo() throws IllegalStateException {
        if (past.size < 1) {
            throw new IllegalStateException("nothing to take back");
        }
        past.size--;
        takeBack(past.size);
        return past.size;
    }

    public int cycle() throws IllegalStateException {
        checkBook();
        return round.years;
    }

    public int fates(int feast, int fate, boolean first) throws IndexOutOfBoundsException, IllegalArgumentException {
        checkFeast(feast);
        checkNumber(fate, KEPT, ABSENT);
        return first ? round.allSettled().firstWith(feast, fate) : round.allSettled().yearsWith(feast, fate);
    }

    public int far(int feast) throws IndexOutOfBoundsException {
        checkFeast(feast);
        return round.allSettled().farthest(feast);
    }

    public int span(int feast, boolean most) throws IndexOutOfBoundsException {
        checkFeast(feast);
        return round.allSettled().outermost(feast, most);
    }

    public int meets(int feast) throws IndexOutOfBoundsException {
        checkFeast(feast);
        return round.metBy(feast);
    }

    public boolean beats(int feast, int other) throws IndexOutOfBoundsException, IllegalArgumentException {
        checkTwoFeasts(feast, other);
        return now.feasts.claims[feast] > now.feasts.claims[other];
    }

    public int safe(int feast) throws IndexOutOfBoundsException {
        checkFeast(feast);
        return round.safeRank(feast);
    }

    public int next(int feast, int weekday, int year) throws IndexOutOfBoundsException, IllegalArgumentException {
        checkFeast(feast);
        checkYear(year);
        checkNumber(weekday, 0, now.week - 1);
        return round.allSettled().firstOn(feast, weekday, year);
    }

    public int unresolved() throws IllegalStateException {
        checkBook();
        return round.allSettled().firstLeft();
    }

    public int paschs(int day) throws IllegalStateException {
        checkBook();
        return round.yearsWithPasch(day);
    }

    public boolean alike(int year, int other) throws IndexOutOfBoundsException {
        checkYear(year);
        checkYear(other);
        return now.sortOf(year) == now.sortOf(other);
    }

    public int sorts() throws IllegalStateException {
        checkBook();
        return round.howManySorts();
    }

    public int yields(int feast, int other) throws IndexOutOfBoundsException, IllegalArgumentException {
        checkTwoFeasts(feast, other);
        return round.allSettled().yearsYielding(feast, other);
    }

    public int course(int what) throws IllegalStateException, NoSuchElementException {
        checkBook();
        checkWhat(what, 3);
        return round.allMeasured().lessons(what >= 2, what % 2 == 1);
    }

    public int heaviest(int year, int n, boolean weight) throws IndexOutOfBoundsException, IllegalArgumentException {
        checkYear(year);
        checkNumber(n, 1, RUN_MOST);
        if (n > now.daysOf(year)) {
            return NONE;
        }
        YearPlan settled = settledYear(year);
        int first = settled.heaviestFrom(n);
        return weight ? settled.weightOf(first, n) : first;
    }

    public int interval(int feast, boolean most) throws IndexOutOfBoundsException {
        checkFeast(feast);
        return round.allSettled().gap(feast, most);
    }

    public int order(int k) {
        return k >= 0 && k < now.feasts.size ? now.feasts.ranking[k] : NONE;
    }

    public int better(int feast, int n, int what) throws IndexOutOfBoundsException, NoSuchElementException, IllegalArgumentException {
        checkFeast(feast);
        checkWhat(what, 1);
        checkNumber(n, 0, SHIFT_MOST);
        int shift = round.bestShift(feast, n);
        return what == 0 ? now.feasts.days[feast] + shift : round.keptByShift(shift);
    }

    public int rival(int feast) throws IndexOutOfBoundsException {
        checkFeast(feast);
        return round.allSettled().worstRival(feast);
    }

    public int lull(int n) throws IllegalStateException, IllegalArgumentException {
        checkBook();
        checkNumber(n, 1, RUN_MOST);
        return round.allMeasured().firstRunOf(n);
    }

    public int tally(int year, int fate) throws IndexOutOfBoundsException, IllegalArgumentException {
        checkYear(year);
        checkNumber(fate, KEPT, ABSENT);
        return settledYear(year).feastsWith(fate);
    }

    public int leader() throws IllegalStateException {
        checkBook();
        return round.allSettled().mostKept();
    }

    public void image() {
        kept.copyFrom(now);
        hasImage = true;
    }

    public boolean back() {
        if (!hasImage) {
            return false;
        }
        takeOver(kept);
        return true;
    }

    public int count(int what) {
        switch (what) {
            case 0: return now.week;
            case 1: return now.months;
            case 2: return now.feasts.size;
            case 3: return now.seasons.size;
            case 4: return now.closed.size;
            case 5: return now.reach;
            case 6: return now.rest;
            case 7: return now.leapEach;
            case 8: return past.size;
            case 9: return now.fasting;
            case 10: return now.lift;
            default: return NONE;
        }
    }

    private void checkBook() {
        if (!now.told) {
            throw new IllegalStateException("there is no book");
        }
    }

    private void checkYear(int year) {
        if (!now.told || year < 0 || year > LAST_YEAR) {
            throw new IndexOutOfBoundsException("no such year");
        }
    }

    private void checkDay(int year, int day) {
        checkYear(year);
        if (day < 0 || day >= now.daysOf(year)) {
            throw new IndexOutOfBoundsException("no such day");
        }
    }

    private void checkFeast(int feast) {
        if (feast < 0 || feast >= now.feasts.size) {
            throw new IndexOutOfBoundsException("no such feast");
        }
    }

    private void checkTwoFeasts(int feast, int other) {
        checkFeast(feast);
        checkFeast(other);
        if (feast == other) {
            throw new IllegalArgumentException("both feasts are one");
        }
    }

    private static void checkWhat(int what, int last) {
        if (what < 0 || what > last) {
            throw new NoSuchElementException("no such what");
        }
    }

    private static void checkNumber(int number, int low, int high) {
        if (number < low || number > high) {
            throw new IllegalArgumentException("the number is none");
        }
    }

    private YearPlan settledYear(int year) {
        plan.settle(now.sortOf(year));
        return plan;
    }

    private void takeOver(Book other) {
        now.copyFrom(other);
        past.size = 0;
        plan.forget();
        round.begin();
    }

    private void forgetResults() {
        plan.forget();
        round.forget();
    }

    private void tellRank(int feast, int rank) {
        now.feasts.ranks[feast] = rank;
        now.feasts.sortByClaim();
        forgetResults();
    }

    private void tellLaw(int feast, int law) {
        now.feasts.laws[feast] = law;
        forgetResults();
    }

    private void tellDay(int feast, int month, int day) {
        now.feasts.months[feast] = month;
        now.feasts.days[feast] = day;
        forgetResults();
    }

    private void tellReach(int reach) {
        now.reach = reach;
        forgetResults();
    }

    private void takeBack(int change) {
        int feast = past.feasts[change];
        int was = past.values[change];
        switch (past.kinds[change]) {
            case CHANGED_RANK: tellRank(feast, was); break;
            case CHANGED_LAW: tellLaw(feast, was); break;
            case CHANGED_DAY: tellDay(feast, past.months[change], was); break;
            default: tellReach(was); break;
        }
    }

    /** Sums that must not fail, whatever they are given. */
    private static final class Sums {
        private Sums() {
        }

        static int left(int number, int by) {
            return by > 0 ? number % by : 0;
        }

        static int common(int a, int b) {
            int greater = a;
            int lesser = b;
            for (int i = 0; i < 64 && lesser > 0; i++) {
                int left = greater % lesser;
                greater = lesser;
                lesser = left;
            }
            return Math.max(greater, 1);
        }
    }

    /** A CLAIM is one number, so that the greater CLAIM is the greater number. */
    private static final class Claims {
        static final int NUMBERS = 16;
        static final int KINDS = 5;
        static final int OF_KIND = 2 * NUMBERS;
        static final int OF_RANK = KINDS * OF_KIND;

        private Claims() {
        }

        static int sunday(int rank) {
            return rank * OF_RANK + SUNDAY * OF_KIND;
        }

        static int ofFeast(int rank, int kind, boolean moving, int feast) {
            int ahead = moving ? NUMBERS : 0;
            return rank * OF_RANK + kind * OF_KIND + ahead + NUMBERS - 1 - feast;
        }

        static int rankIn(int claim) {
            return claim / OF_RANK;
        }

        static int kindIn(int claim) {
            return claim / OF_KIND % KINDS;
        }

        static int feastIn(int claim) {
            int kind = kindIn(claim);
            return kind == PLAIN || kind == SUNDAY ? NONE : NUMBERS - 1 - claim % NUMBERS;
        }

        static int tell(int claim, int what) {
            switch (what) {
                case 0: return kindIn(claim);
                case 1: return rankIn(claim);
                default: return feastIn(claim);
            }
        }
    }

    /** The bytes that have come and are not used up. */
    private static final class Tape {
        final byte[] bytes = new byte[TAPE_MOST];
        int size;

        boolean hasRoom() {
            return size + FEED_BYTES <= TAPE_MOST;
        }

        void add(int number) {
            for (int shift = 24; shift >= 0 && size < TAPE_MOST; shift -= 8) {
                bytes[size] = (byte) (number >> shift);
                size++;
            }
        }

        int at(int place) {
            return place >= 0 && place < size ? bytes[place] & 255 : NONE;
        }
    }

    /** SEASONS or CLOSED times, counted from PASCH. */
    private static final class Spans {
        int size;
        final int[] from = new int[SPANS_MOST];
        final int[] to = new int[SPANS_MOST];
        final int[] ranks = new int[SPANS_MOST];

        void add(int first, int last, int rank) {
            if (size < SPANS_MOST) {
                from[size] = first;
                to[size] = last;
                ranks[size] = rank;
                size++;
            }
        }

        int lastWith(int fromPasch) {
            for (int i = size - 1; i >= 0; i--) {
                if (fromPasch >= from[i] && fromPasch <= to[i]) {
                    return i;
                }
            }
            return NONE;
        }

        void copyFrom(Spans other) {
            size = other.size;
            System.arraycopy(other.from, 0, from, 0, SPANS_MOST);
            System.arraycopy(other.to, 0, to, 0, SPANS_MOST);
            System.arraycopy(other.ranks, 0, ranks, 0, SPANS_MOST);
        }
    }

    /** The FEASTS as they are told; a MOVING one has NONE for its MONTH. */
    private static final class Feasts {
        int size;
        final int[] ranks = new int[FEASTS_MOST];
        final int[] months = new int[FEASTS_MOST];
        final int[] days = new int[FEASTS_MOST];
        final int[] laws = new int[FEASTS_MOST];
        final int[] vigils = new int[FEASTS_MOST];
        final int[] octaves = new int[FEASTS_MOST];
        final int[] claims = new int[FEASTS_MOST];
        final int[] ranking = new int[FEASTS_MOST];

        void add(int rank, int month, int day, int law, int vigil, int octave) {
            if (size < FEASTS_MOST) {
                ranks[size] = rank;
                months[size] = month;
                days[size] = day;
                laws[size] = law;
                vigils[size] = vigil;
                octaves[size] = octave;
                size++;
            }
        }

        boolean isMoving(int feast) {
            return months[feast] == NONE;
        }

        int claimWith(int feast, int rank) {
            return Claims.ofFeast(rank, FEAST, isMoving(feast), feast);
        }

        int vigilClaim(int feast) {
            return Claims.ofFeast(vigils[feast], VIGIL, isMoving(feast), feast);
        }

        int octaveClaim(int feast) {
            return Claims.ofFeast(octaves[feast], OCTAVE, isMoving(feast), feast);
        }

        void sortByClaim() {
            for (int feast = 0; feast < size; feast++) {
                claims[feast] = claimWith(feast, ranks[feast]);
            }
            for (int feast = 0; feast < size; feast++) {
                ranking[howManyAbove(claims[feast])] = feast;
            }
        }

        int howManyAbove(int claim) {
            int many = 0;
            for (int feast = 0; feast < size; feast++) {
                many += claims[feast] > claim ? 1 : 0;
            }
            return many;
        }

        void copyFrom(Feasts other) {
            size = other.size;
            System.arraycopy(other.ranks, 0, ranks, 0, FEASTS_MOST);
            System.arraycopy(other.months, 0, months, 0, FEASTS_MOST);
            System.arraycopy(other.days, 0, days, 0, FEASTS_MOST);
            System.arraycopy(other.laws, 0, laws, 0, FEASTS_MOST);
            System.arraycopy(other.vigils, 0, vigils, 0, FEASTS_MOST);
            System.arraycopy(other.octaves, 0, octaves, 0, FEASTS_MOST);
            System.arraycopy(other.claims, 0, claims, 0, FEASTS_MOST);
            System.arraycopy(other.ranking, 0, ranking, 0, FEASTS_MOST);
        }
    }

    /** THE BOOK: all that is told of YEARS and FEASTS; not told, there is none. */
    private static final class Book {
        boolean told;
        int week;
        int months;
        int yearDays;
        int leapEach;
        int leapMonth;
        int moonCycle;
        int moonFirst;
        int moonStep;
        int moonSpan;
        int reach = REACH_AT_FIRST;
        int rest;
        int lift = LIFT_AT_FIRST;
        int fasting;
        final int[] monthDays = new int[MONTHS_MOST];
        final Spans seasons = new Spans();
        final Spans closed = new Spans();
        final Feasts feasts = new Feasts();

        void clear() {
            told = false;
            week = 0;
            months = 0;
            yearDays = 0;
            leapEach = 0;
            leapMonth = 0;
            reach = REACH_AT_FIRST;
            rest = 0;
            lift = LIFT_AT_FIRST;
            fasting = 0;
            seasons.size = 0;
            closed.size = 0;
            feasts.size = 0;
        }

        void copyFrom(Book other) {
            told = other.told;
            week = other.week;
            months = other.months;
            yearDays = other.yearDays;
            leapEach = other.leapEach;
            leapMonth = other.leapMonth;
            moonCycle = other.moonCycle;
            moonFirst = other.moonFirst;
            moonStep = other.moonStep;
            moonSpan = other.moonSpan;
            reach = other.reach;
            rest = other.rest;
            lift = other.lift;
            fasting = other.fasting;
            System.arraycopy(other.monthDays, 0, monthDays, 0, MONTHS_MOST);
            seasons.copyFrom(other.seasons);
            closed.copyFrom(other.closed);
            feasts.copyFrom(other.feasts);
        }

        void addMonth(int days) {
            if (months < MONTHS_MOST) {
                monthDays[months] = days;
                months++;
                yearDays += days;
            }
        }

        boolean canTell(int month, int day) {
            if (month == NONE) {
                return day >= -TELL_MOST && day <= TELL_MOST;
            }
            return month >= 0 && month < months && day >= 0 && day < monthDays[month];
        }

        boolean isLeap(int year) {
            return leapEach > 0 && year % leapEach == 0;
        }

        int daysOf(int year) {
            return isLeap(year) ? yearDays + 1 : yearDays;
        }

        int firstWeekday(int year) {
            return Sums.left(daysAhead(year), week);
        }

        int daysAhead(int year) {
            int leapDays = leapEach > 0 ? (year + leapEach - 1) / leapEach : 0;
            return year * yearDays + leapDays;
        }

        int fullOf(int year) {
            return moonFirst + Sums.left(moonStep * Sums.left(year, moonCycle), moonSpan);
        }

        int paschOf(int year) {
            int full = fullOf(year);
            return full + week - Sums.left(firstWeekday(year) + full, week);
        }

        int sortOf(int year) {
            int sort = Math.floorMod(paschOf(year) - moonFirst - 1, SORTS_OF_ONE_LENGTH);
            return isLeap(year) ? sort + SORTS_OF_ONE_LENGTH : sort;
        }

        boolean hasLeap(int sort) {
            return sort >= SORTS_OF_ONE_LENGTH;
        }

        int daysIn(int sort) {
            return hasLeap(sort) ? yearDays + 1 : yearDays;
        }

        int paschIn(int sort) {
            return moonFirst + 1 + sort % SORTS_OF_ONE_LENGTH;
        }

        int weekdayFrom(int pasch, int day) {
            return Math.floorMod(day - pasch, Math.max(week, 1));
        }

        int monthStart(int sort, int month) {
            int start = hasLeap(sort) && month > leapMonth ? 1 : 0;
            for (int i = 0; i < month && i < months; i++) {
                start += monthDays[i];
            }
            return start;
        }

        int monthOf(int sort, int day) {
            int month = 0;
            for (int i = 1; i < months; i++) {
                month = day >= monthStart(sort, i) ? i : month;
            }
            return month;
        }

        int sundayClaim(int fromPasch) {
            int season = seasons.lastWith(fromPasch);
            return Claims.sunday(season == NONE ? rest : seasons.ranks[season]);
        }

        int yearsOfCycle() {
            int leap = Math.max(leapEach, 1);
            int years = moonCycle / Sums.common(moonCycle, leap) * leap;
            return years * (week / Sums.common(daysAhead(years), week));
        }
    }

    /** Reads a text into a draft; behind the first wrong byte nothing is looked at any more. */
    private static final class Reader {
        final Tape tape;
        final Book draft = new Book();
        int place;
        int begin;
        int wrong;
        boolean reachTold;
        boolean restTold;
        boolean liftTold;

        Reader(Tape source) {
            tape = source;
        }

        int read() {
            place = 0;
            begin = 0;
            wrong = NONE;
            reachTold = false;
            restTold = false;
            liftTold = false;
            draft.clear();
            readYears();
            readMoon();
            for (int line = 0; line <= LINES_MOST && lineComes(); line++) {
                readLine(line);
            }
            draft.feasts.sortByClaim();
            draft.told = wrong == NONE;
            return wrong;
        }

        void readYears() {
            readWord();
            require(isWord("book"));
            draft.week = readNumber(3, 9);
            draft.addMonth(readNumber(5, MONTH_DAYS_MOST));
            for (int i = 1; i <= MONTHS_MOST && digitComes(); i++) {
                begin = place;
                require(draft.months < MONTHS_MOST);
                draft.addMonth(readNumber(5, MONTH_DAYS_MOST));
            }
        }

        void readMoon() {
            readWord();
            if (isWord("leap")) {
                draft.leapEach = readNumber(2, 9);
                draft.leapMonth = readNumber(0, draft.months - 1);
                readWord();
            }
            require(isWord("moon"));
            draft.moonCycle = readNumber(1, 19);
            draft.moonFirst = readNumber(0, 99);
            draft.moonStep = readNumber(0, 30);
            draft.moonSpan = readNumber(1, Math.min(30, draft.yearDays - draft.moonFirst - draft.week));
        }

        boolean lineComes() {
            skipBlanks();
            begin = place;
            require(place >= tape.size || tape.at(place) == ';');
            return wrong == NONE && place < tape.size;
        }

        void readLine(int line) {
            place++;
            readWord();
            require(line < LINES_MOST);
            if (isWord("feast")) {
                readFeast();
            } else if (isWord("season")) {
                readSeason();
            } else if (isWord("closed")) {
                readClosed();
            } else if (isWord("fast")) {
                readFasting();
            } else {
                readSetting();
            }
        }

        void readSetting() {
            if (isWord("reach") && !reachTold) {
                reachTold = true;
                draft.reach = readNumber(1, REACH_MOST);
            } else if (isWord("rest") && !restTold) {
                restTold = true;
                draft.rest = readNumber(0, RANK_MOST);
            } else if (isWord("lift") && !liftTold) {
                liftTold = true;
                draft.lift = readNumber(1, RANK_MOST);
            } else {
                require(false);
            }
        }

        void readFasting() {
            int weekday = readNumber(0, draft.week - 1);
            require((draft.fasting >> weekday & 1) == 0);
            draft.fasting |= 1 << weekday;
        }

        void readSeason() {
            require(draft.seasons.size < SPANS_MOST);
            int from = readSigned(-TELL_MOST);
            int to = readSigned(from);
            draft.seasons.add(from, to, readNumber(0, RANK_MOST));
        }

        void readClosed() {
            require(draft.closed.size < SPANS_MOST);
            int from = readSigned(-TELL_MOST);
            draft.closed.add(from, readSigned(from), 0);
        }

        void readFeast() {
            require(draft.feasts.size < FEASTS_MOST);
            int rank = readNumber(1, RANK_MOST);
            readWord();
            boolean moving = isWord("at");
            require(moving || isWord("on"));
            int month = moving ? NONE : readNumber(0, draft.months - 1);
            int day = moving ? readSigned(-TELL_MOST) : readNumber(0, lastDayOf(month));
            int law = readLaw();
            int vigil = readOption("vigil");
            int octave = readOption("octave");
            draft.feasts.add(rank, month, day, law, vigil, octave);
        }

        int lastDayOf(int month) {
            return month >= 0 && month < draft.months ? draft.monthDays[month] - 1 : NONE;
        }

        int readLaw() {
            readWord();
            if (isWord("move")) {
                return MOVE;
            }
            if (isWord("back")) {
                return BACK;
            }
            if (isWord("join")) {
                return JOIN;
            }
            require(isWord("drop"));
            return DROP;
        }

        int readOption(String name) {
            int start = place;
            readWord();
            if (isWord(name)) {
                return readNumber(1, RANK_MOST);
            }
            place = start;
            return 0;
        }

        void readWord() {
            skipBlanks();
            begin = place;
            while (place < tape.size && tape.at(place) >= 'a' && tape.at(place) <= 'z') {
                place++;
            }
        }

        boolean isWord(String name) {
            if (place - begin != name.length()) {
                return false;
            }
            for (int i = 0; i < name.length(); i++) {
                if (tape.at(begin + i) != name.charAt(i)) {
                    return false;
                }
            }
            return true;
        }

        int readNumber(int low, int high) {
            skipBlanks();
            begin = place;
            int number = readDigits();
            require(number >= low && number <= high);
            return wrong == NONE ? number : low;
        }

        int readSigned(int low) {
            skipBlanks();
            int start = place;
            boolean minus = tape.at(place) == '-';
            if (minus) {
                place++;
                begin = place;
                require(isDigit(tape.at(place)));
            }
            begin = start;
            int number = minus ? -readDigits() : readDigits();
            require(number >= low);
            return wrong == NONE ? number : low;
        }

        int readDigits() {
            require(isDigit(tape.at(place)));
            int number = 0;
            int start = place;
            while (place < tape.size && isDigit(tape.at(place))) {
                if (place - start < 2) {
                    number = number * 10 + tape.at(place) - '0';
                }
                place++;
            }
            require(place - start <= 2);
            return number;
        }

        boolean digitComes() {
            skipBlanks();
            return isDigit(tape.at(place));
        }

        static boolean isDigit(int sign) {
            return sign >= '0' && sign <= '9';
        }

        void skipBlanks() {
            while (place < tape.size && tape.at(place) == ' ') {
                place++;
            }
        }

        void require(boolean right) {
            if (!right && wrong == NONE) {
                wrong = begin;
            }
        }
    }

    /** The latest changes by hand, with what was ahead of them. */
    private static final class Past {
        int size;
        final int[] kinds = new int[PAST_MOST];
        final int[] feasts = new int[PAST_MOST];
        final int[] months = new int[PAST_MOST];
        final int[] values = new int[PAST_MOST];

        void remember(int kind, int feast, int month, int value) {
            if (size >= PAST_MOST) {
                dropOldest();
            }
            kinds[size] = kind;
            feasts[size] = feast;
            months[size] = month;
            values[size] = value;
            size++;
        }

        void dropOldest() {
            size = PAST_MOST - 1;
            System.arraycopy(kinds, 1, kinds, 0, size);
            System.arraycopy(feasts, 1, feasts, 0, size);
            System.arraycopy(months, 1, months, 0, size);
            System.arraycopy(values, 1, values, 0, size);
        }
    }

    /** One sort of YEARS, laid out (DAYS, VIGILS) and then RESOLVED; ALIKE YEARS are of one sort. */
    private static final class YearPlan {
        final Book book;
        final Feasts feasts;
        int laid;
        int settled;
        int days;
        int pasch;
        final int[] base = new int[DAYS_MOST];
        final int[] office = new int[DAYS_MOST];
        final int[] dayOf = new int[FEASTS_MOST];
        final int[] vigilOf = new int[FEASTS_MOST];
        final int[] placeOf = new int[FEASTS_MOST];
        final int[] fateOf = new int[FEASTS_MOST];

        YearPlan(Book source) {
            book = source;
            feasts = source.feasts;
            laid = NONE;
            settled = NONE;
        }

        void forget() {
            laid = NONE;
            settled = NONE;
        }

        void lay(int sort) {
            if (laid == sort) {
                return;
            }
            laid = sort;
            settled = NONE;
            days = book.daysIn(sort);
            pasch = book.paschIn(sort);
            for (int feast = 0; feast < feasts.size; feast++) {
                int day = toldDay(feast);
                dayOf[feast] = hasDay(day) ? day : NONE;
                vigilOf[feast] = vigilDay(feast);
            }
        }

        boolean hasDay(int day) {
            return day >= 0 && day < days;
        }

        int toldDay(int feast) {
            int start = feasts.isMoving(feast) ? pasch : book.monthStart(laid, feasts.months[feast]);
            return start + feasts.days[feast];
        }

        int vigilDay(int feast) {
            if (feasts.vigils[feast] == 0 || dayOf[feast] < 1) {
                return NONE;
            }
            int day = dayOf[feast] - 1;
            return isSunday(day) ? day - 1 : day;
        }

        boolean isSunday(int day) {
            return book.weekdayFrom(pasch, day) == 0;
        }

        void settle(int sort) {
            lay(sort);
            if (settled == sort) {
                return;
            }
            settled = sort;
            fillBase();
            System.arraycopy(base, 0, office, 0, days);
            keepGreatest();
            for (int k = 0; k < feasts.size; k++) {
                int feast = feasts.ranking[k];
                if (fateOf[feast] == NONE) {
                    goByLaw(feast);
                }
            }
        }

        void fillBase() {
            Arrays.fill(base, 0, days, 0);
            int week = Math.max(book.week, 1);
            for (int day = pasch % week; day < days; day += week) {
                base[day] = book.sundayClaim(day - pasch);
            }
            for (int feast = 0; feast < feasts.size; feast++) {
                if (vigilOf[feast] != NONE) {
                    raiseBase(vigilOf[feast], feasts.vigilClaim(feast));
                }
                if (dayOf[feast] != NONE && feasts.octaves[feast] > 0) {
                    fillOctave(dayOf[feast], feasts.octaveClaim(feast));
                }
            }
        }

        void fillOctave(int day, int claim) {
            for (int behind = 1; behind <= book.week; behind++) {
                raiseBase(day + behind, claim);
            }
        }

        void raiseBase(int day, int claim) {
            if (hasDay(day) && base[day] < claim) {
                base[day] = claim;
            }
        }

        // A fate of NONE is one that LAW has to find yet.
        void keepGreatest() {
            for (int k = 0; k < feasts.size; k++) {
                int feast = feasts.ranking[k];
                int day = dayOf[feast];
                placeOf[feast] = NONE;
                if (day == NONE) {
                    fateOf[feast] = ABSENT;
                } else if (feasts.claims[feast] > base[day] && !hasFeast(day)) {
                    hold(feast, day, KEPT);
                } else {
                    fateOf[feast] = NONE;
                }
            }
        }

        void hold(int feast, int day, int fate) {
            office[day] = feasts.claims[feast];
            placeOf[feast] = day;
            fateOf[feast] = fate;
        }

        boolean hasFeast(int day) {
            return Claims.kindIn(office[day]) == FEAST;
        }

        void goByLaw(int feast) {
            switch (feasts.laws[feast]) {
                case MOVE: seekDay(feast, 1); break;
                case BACK: seekDay(feast, -1); break;
                case JOIN: fateOf[feast] = Integer.bitCount(joinedTo(dayOf[feast])) < 2 ? JOINED : DROPPED; break;
                default: fateOf[feast] = DROPPED; break;
            }
        }

        void seekDay(int feast, int step) {
            for (int far = 1; far <= book.reach; far++) {
                int day = dayOf[feast] + far * step;
                if (isOpenTo(feast, day)) {
                    hold(feast, day, MOVED);
                    return;
                }
            }
            fateOf[feast] = LEFT;
        }

        boolean isOpenTo(int feast, int day) {
            return hasDay(day)
                && Claims.kindIn(office[day]) != FEAST
                && Claims.rankIn(base[day]) < feasts.ranks[feast]
                && book.closed.lastWith(day - pasch) == NONE;
        }

        int joinedTo(int day) {
            int bits = 0;
            for (int feast = 0; feast < feasts.size; feast++) {
                if (fateOf[feast] == JOINED && dayOf[feast] == day) {
                    bits |= 1 << feast;
                }
            }
            return bits;
        }

        int yieldedTo(int feast) {
            if (fateOf[feast] == KEPT || fateOf[feast] == ABSENT) {
                return NONE;
            }
            for (int other = 0; other < feasts.size; other++) {
                if (fateOf[other] == KEPT && dayOf[other] == dayOf[feast]) {
                    return other;
                }
            }
            return NONE;
        }

        int kindYieldedTo(int feast) {
            if (fateOf[feast] == KEPT || fateOf[feast] == ABSENT) {
                return NONE;
            }
            return yieldedTo(feast) != NONE ? FEAST : Claims.kindIn(base[dayOf[feast]]);
        }

        int feastsWith(int fate) {
            int many = 0;
            for (int feast = 0; feast < feasts.size; feast++) {
                many += fateOf[feast] == fate ? 1 : 0;
            }
            return many;
        }

        int measure(int what) {
            switch (what) {
                case 4: return plainDays(0, days);
                case 5: return longestPlain();
                case 7: return fastDays();
                case 8: return longestFast();
                case 9: return meetings();
                default: return weightOf(0, days);
            }
        }

        boolean isPlain(int day) {
            return Claims.kindIn(office[day]) == PLAIN;
        }

        int plainDays(int from, int to) {
            int many = 0;
            for (int day = from; day < to; day++) {
                many += isPlain(day) ? 1 : 0;
            }
            return many;
        }

        int longestPlain() {
            int longest = 0;
            int run = 0;
            for (int day = 0; day < days; day++) {
                run = isPlain(day) ? run + 1 : 0;
                longest = Math.max(longest, run);
            }
            return longest;
        }

        boolean isFast(int day) {
            int weekday = book.weekdayFrom(pasch, day);
            if (weekday == 0 || hasFeast(day) && Claims.rankIn(office[day]) >= book.lift) {
                return false;
            }
            return (book.fasting >> weekday & 1) == 1 || isVigilOfKept(day);
        }

        boolean isVigilOfKept(int day) {
            for (int feast = 0; feast < feasts.size; feast++) {
                if (vigilOf[feast] == day && fateOf[feast] == KEPT) {
                    return true;
                }
            }
            return false;
        }

        int fastDays() {
            int many = 0;
            for (int day = 0; day < days; day++) {
                many += isFast(day) ? 1 : 0;
            }
            return many;
        }

        int longestFast() {
            int longest = 0;
            int run = 0;
            for (int day = 0; day < days; day++) {
                run = isFast(day) ? run + 1 : 0;
                longest = Math.max(longest, run);
            }
            return longest;
        }

        // Each day with several FEASTS has just one that meets a single FEAST of a lesser number there.
        int meetings() {
            int many = 0;
            for (int feast = 0; feast < feasts.size; feast++) {
                many += lesserThere(feast) == 1 ? 1 : 0;
            }
            return many;
        }

        int lesserThere(int feast) {
            int many = 0;
            for (int other = 0; other < feast; other++) {
                many += dayOf[feast] != NONE && dayOf[other] == dayOf[feast] ? 1 : 0;
            }
            return many;
        }

        int weightOf(int first, int many) {
            int weight = 0;
            for (int day = first; day < first + many && day < days; day++) {
                weight += Claims.rankIn(office[day]);
            }
            return weight;
        }

        int heaviestFrom(int many) {
            int weight = weightOf(0, many);
            int most = weight;
            int best = 0;
            for (int first = 1; first + many <= days; first++) {
                weight += Claims.rankIn(office[first + many - 1]) - Claims.rankIn(office[first - 1]);
                if (weight > most) {
                    most = weight;
                    best = first;
                }
            }
            return best;
        }

        // No CLAIM of a FEAST's own VIGIL or OCTAVE is on its DAY, so that it need only beat all others' there.
        int greatestOfOthers(int feast, int day) {
            int greatest = isSunday(day) ? book.sundayClaim(day - pasch) : 0;
            for (int other = 0; other < feasts.size; other++) {
                if (other != feast && dayOf[other] != NONE) {
                    greatest = Math.max(greatest, claimOn(other, day));
                }
            }
            return greatest;
        }

        int claimOn(int feast, int day) {
            int behind = day - dayOf[feast];
            if (behind == 0) {
                return feasts.claims[feast];
            }
            if (behind > 0) {
                return behind <= book.week && feasts.octaves[feast] > 0 ? feasts.octaveClaim(feast) : 0;
            }
            return vigilOf[feast] == day ? feasts.vigilClaim(feast) : 0;
        }
    }

    /** ALL YEARS of THE CYCLE, by their sorts: what became of each FEAST is kept a row for each sort. */
    private static final class Round {
        final Book book;
        final Feasts feasts;
        final YearPlan plan;
        int years;
        final int[] often = new int[SORTS_MOST];
        final int[] firstYear = new int[SORTS_MOST];
        boolean settled;
        boolean measured;
        final int[] days = new int[SORTS_MOST * FEASTS_MOST];
        final int[] places = new int[SORTS_MOST * FEASTS_MOST];
        final int[] fateRows = new int[SORTS_MOST * FEASTS_MOST];
        final int[] runs = new int[SORTS_MOST];
        final int[] ahead = new int[SORTS_MOST];
        final int[] behind = new int[SORTS_MOST];
        final int[] keptBy = new int[2 * SHIFT_MOST + 1];

        Round(Book source, YearPlan yearPlan) {
            book = source;
            feasts = source.feasts;
            plan = yearPlan;
        }

        void begin() {
            forget();
            Arrays.fill(often, 0);
            years = book.told ? book.yearsOfCycle() : 0;
            for (int year = years - 1; year >= 0; year--) {
                int sort = book.sortOf(year);
                often[sort]++;
                firstYear[sort] = year;
            }
        }

        void forget() {
            settled = false;
            measured = false;
        }

        Round allSettled() {
            for (int sort = 0; sort < SORTS_MOST && !settled; sort++) {
                if (often[sort] > 0) {
                    plan.settle(sort);
                    System.arraycopy(plan.dayOf, 0, days, sort * FEASTS_MOST, FEASTS_MOST);
                    System.arraycopy(plan.placeOf, 0, places, sort * FEASTS_MOST, FEASTS_MOST);
                    System.arraycopy(plan.fateOf, 0, fateRows, sort * FEASTS_MOST, FEASTS_MOST);
                }
            }
            settled = true;
            return this;
        }

        Round allMeasured() {
            for (int sort = 0; sort < SORTS_MOST && !measured; sort++) {
                if (often[sort] > 0) {
                    plan.settle(sort);
                    runs[sort] = plan.longestPlain();
                    ahead[sort] = plan.plainDays(0, plan.pasch);
                    behind[sort] = plan.plainDays(plan.pasch, plan.days);
                }
            }
            measured = true;
            return this;
        }

        int earlier(int year, int sort) {
            return year == NONE || firstYear[sort] < year ? firstYear[sort] : year;
        }

        int yearsWith(int feast, int fate) {
            int many = 0;
            for (int sort = 0; sort < SORTS_MOST; sort++) {
                if (often[sort] > 0 && fateRows[sort * FEASTS_MOST + feast] == fate) {
                    many += often[sort];
                }
            }
            return many;
        }

        int firstWith(int feast, int fate) {
            int first = NONE;
            for (int sort = 0; sort < SORTS_MOST; sort++) {
                if (often[sort] > 0 && fateRows[sort * FEASTS_MOST + feast] == fate) {
                    first = earlier(first, sort);
                }
            }
            return first;
        }

        int firstLeft() {
            int first = NONE;
            for (int feast = 0; feast < feasts.size; feast++) {
                int year = firstWith(feast, LEFT);
                if (year != NONE && (first == NONE || year < first)) {
                    first = year;
                }
            }
            return first;
        }

        int farthest(int feast) {
            int far = 0;
            for (int sort = 0; sort < SORTS_MOST; sort++) {
                if (often[sort] > 0) {
                    int at = sort * FEASTS_MOST + feast;
                    far = fateRows[at] == MOVED ? Math.max(far, Math.abs(places[at] - days[at])) : far;
                }
            }
            return far;
        }

        int outermost(int feast, boolean most) {
            int found = NONE;
            for (int sort = 0; sort < SORTS_MOST; sort++) {
                if (often[sort] > 0) {
                    found = further(found, places[sort * FEASTS_MOST + feast], most);
                }
            }
            return found;
        }

        static int further(int found, int number, boolean most) {
            if (found == NONE || number == NONE) {
                return Math.max(found, number);
            }
            return most ? Math.max(found, number) : Math.min(found, number);
        }

        int metBy(int feast) {
            int bits = 0;
            for (int sort = 0; sort < SORTS_MOST; sort++) {
                if (often[sort] > 0) {
                    plan.lay(sort);
                    bits |= metInPlan(feast);
                }
            }
            return bits;
        }

        int metInPlan(int feast) {
            int bits = 0;
            for (int other = 0; other < feasts.size; other++) {
                if (other != feast && plan.dayOf[feast] != NONE && plan.dayOf[other] == plan.dayOf[feast]) {
                    bits |= 1 << other;
                }
            }
            return bits;
        }

        int safeRank(int feast) {
            int greatest = 0;
            for (int sort = 0; sort < SORTS_MOST; sort++) {
                if (often[sort] > 0) {
                    plan.lay(sort);
                    int day = plan.dayOf[feast];
                    greatest = day == NONE ? greatest : Math.max(greatest, plan.greatestOfOthers(feast, day));
                }
            }
            for (int rank = 1; rank <= RANK_MOST; rank++) {
                if (feasts.claimWith(feast, rank) > greatest) {
                    return rank;
                }
            }
            return NONE;
        }

        int firstOn(int feast, int weekday, int from) {
            for (int year = from; year < from + years && year <= LAST_YEAR; year++) {
                int sort = book.sortOf(year);
                int place = places[sort * FEASTS_MOST + feast];
                if (place != NONE && book.weekdayFrom(book.paschIn(sort), place) == weekday) {
                    return year;
                }
            }
            return NONE;
        }

        int yearsWithPasch(int day) {
            int many = 0;
            for (int sort = 0; sort < SORTS_MOST; sort++) {
                many += book.paschIn(sort) == day ? often[sort] : 0;
            }
            return many;
        }

        int howManySorts() {
            int many = 0;
            for (int sort = 0; sort < SORTS_MOST; sort++) {
                many += often[sort] > 0 ? 1 : 0;
            }
            return many;
        }

        int yearsYielding(int feast, int other) {
            int many = 0;
            for (int sort = 0; sort < SORTS_MOST; sort++) {
                if (often[sort] > 0) {
                    int row = sort * FEASTS_MOST;
                    boolean yields = fateRows[row + other] == KEPT && days[row + other] == days[row + feast];
                    many += yields ? often[sort] : 0;
                }
            }
            return many;
        }

        int lessons(boolean fromPasch, boolean most) {
            int found = NONE;
            for (int sort = 0; sort < SORTS_MOST; sort++) {
                if (often[sort] > 0) {
                    found = further(found, fromPasch ? behind[sort] : ahead[sort], most);
                }
            }
            return found;
        }

        int gap(int feast, boolean most) {
            int found = NONE;
            int sort = book.sortOf(0);
            for (int year = 0; year < years; year++) {
                int next = book.sortOf(year + 1);
                int place = places[sort * FEASTS_MOST + feast];
                int nextPlace = places[next * FEASTS_MOST + feast];
                if (place != NONE && nextPlace != NONE) {
                    found = further(found, book.daysIn(sort) - place + nextPlace, most);
                }
                sort = next;
            }
            return found;
        }

        int bestShift(int feast, int most) {
            countKept(feast, most);
            int best = 0;
            for (int far = 1; far <= most; far++) {
                best = keptByShift(-far) > keptByShift(best) ? -far : best;
                best = keptByShift(far) > keptByShift(best) ? far : best;
            }
            return best;
        }

        int keptByShift(int shift) {
            return keptBy[Math.min(Math.max(shift + SHIFT_MOST, 0), 2 * SHIFT_MOST)];
        }

        void countKept(int feast, int most) {
            Arrays.fill(keptBy, 0);
            for (int sort = 0; sort < SORTS_MOST; sort++) {
                if (often[sort] > 0) {
                    plan.lay(sort);
                    for (int shift = -most; shift <= most; shift++) {
                        keptBy[shift + SHIFT_MOST] += isKeptBy(feast, shift) ? often[sort] : 0;
                    }
                }
            }
        }

        boolean isKeptBy(int feast, int shift) {
            int day = plan.toldDay(feast) + shift;
            return book.canTell(feasts.months[feast], feasts.days[feast] + shift)
                && plan.hasDay(day)
                && feasts.claims[feast] > plan.greatestOfOthers(feast, day);
        }

        int worstRival(int feast) {
            int worst = NONE;
            int most = 0;
            for (int other = 0; other < feasts.size; other++) {
                int many = other == feast ? 0 : yearsYielding(feast, other);
                if (many > most) {
                    most = many;
                    worst = other;
                }
            }
            return worst;
        }

        int firstRunOf(int least) {
            int first = NONE;
            for (int sort = 0; sort < SORTS_MOST; sort++) {
                if (often[sort] > 0) {
                    first = runs[sort] >= least ? earlier(first, sort) : first;
                }
            }
            return first;
        }

        int mostKept() {
            int leader = NONE;
            int most = NONE;
            for (int feast = 0; feast < feasts.size; feast++) {
                int many = yearsWith(feast, KEPT);
                if (many > most) {
                    most = many;
                    leader = feast;
                }
            }
            return leader;
        }
    }
}
