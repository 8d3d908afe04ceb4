import java.util.ArrayList;
import java.util.Arrays;
import java.util.HashMap;
import java.util.HashSet;
import java.util.List;
import java.util.Map;
import java.util.NoSuchElementException;
import java.util.Set;

/**
 * The document once more, written as slowly and plainly as its words go: each YEAR is resolved by itself,
 * what would be is tried out, nothing is put together by sorts. The program is compared with it.
 */
final class Reference {
    static final int NONE = -1;

    static final class Feast implements Cloneable {
        int rank;
        boolean moving;
        int month = NONE;
        int day;
        int law;
        int vigil;
        int octave;

        Feast copy() {
            try {
                return (Feast) clone();
            } catch (CloneNotSupportedException e) {
                throw new AssertionError(e);
            }
        }
    }

    static final class State {
        boolean told;
        int week;
        List<Integer> months = new ArrayList<>();
        int leap;
        int leapMonth;
        int moonCycle;
        int moonFirst;
        int moonStep;
        int moonSpan;
        int reach = 20;
        int rest;
        int lift = 5;
        int fasting;
        List<int[]> seasons = new ArrayList<>();
        List<int[]> closed = new ArrayList<>();
        List<Feast> feasts = new ArrayList<>();

        State copy() {
            State s = new State();
            s.told = told;
            s.week = week;
            s.months.addAll(months);
            s.leap = leap;
            s.leapMonth = leapMonth;
            s.moonCycle = moonCycle;
            s.moonFirst = moonFirst;
            s.moonStep = moonStep;
            s.moonSpan = moonSpan;
            s.reach = reach;
            s.rest = rest;
            s.lift = lift;
            s.fasting = fasting;
            s.seasons.addAll(seasons);
            s.closed.addAll(closed);
            for (Feast f : feasts) {
                s.feasts.add(f.copy());
            }
            return s;
        }
    }

    static final class Claim implements Comparable<Claim> {
        final int rank;
        final int kind;
        final int feast;
        final boolean moving;

        Claim(int rank, int kind, int feast, boolean moving) {
            this.rank = rank;
            this.kind = kind;
            this.feast = feast;
            this.moving = moving;
        }

        public int compareTo(Claim o) {
            if (rank != o.rank) {
                return Integer.compare(rank, o.rank);
            }
            if (kind != o.kind) {
                return Integer.compare(kind, o.kind);
            }
            if (moving != o.moving) {
                return moving ? 1 : -1;
            }
            return Integer.compare(o.feast, feast);
        }

        int tell(int what) {
            return what == 0 ? kind : what == 1 ? rank : feast;
        }
    }

    final class Year {
        int days;
        int first;
        int full;
        int pasch;
        boolean leap;
        int[] day;
        int[] vigil;
        int[] place;
        int[] fate;
        Claim[] base;
        Claim[] office;

        boolean sunday(int d) {
            return weekday(d) == 0;
        }

        int weekday(int d) {
            return Math.floorMod(first + d, st.week);
        }

        boolean has(int d) {
            return d >= 0 && d < days;
        }

        boolean isClosed(int d) {
            for (int[] c : st.closed) {
                if (pasch + c[0] <= d && d <= pasch + c[1]) {
                    return true;
                }
            }
            return false;
        }

        boolean fast(int d) {
            if (sunday(d)) {
                return false;
            }
            boolean is = (st.fasting & 1 << weekday(d)) != 0;
            for (int f = 0; f < st.feasts.size(); f++) {
                if (fate[f] == 0 && vigil[f] == d) {
                    is = true;
                }
            }
            return is && !(office[d].kind == 4 && office[d].rank >= st.lift);
        }

        int lesson(int d) {
            if (office[d].kind != 0) {
                return NONE;
            }
            int n = 0;
            for (int i = 0; i < d; i++) {
                if (office[i].kind == 0 && (d < pasch || i >= pasch)) {
                    n++;
                }
            }
            return n;
        }

        int run() {
            int best = 0;
            for (int a = 0; a < days; a++) {
                int b = a;
                while (b < days && office[b].kind == 0) {
                    b++;
                }
                best = Math.max(best, b - a);
            }
            return best;
        }
    }

    State st = new State();
    State img;
    final List<State> past = new ArrayList<>();
    byte[] tape = new byte[0];
    int fault = NONE;
    Map<Integer, Year> memo = new HashMap<>();

    // ---- years

    int plainDays() {
        int n = 0;
        for (int m : st.months) {
            n += m;
        }
        return n;
    }

    boolean leap(int y) {
        return st.leap != 0 && y % st.leap == 0;
    }

    private final Map<String, long[]> aheadMemo = new HashMap<>();

    long ahead(int y) {
        String key = plainDays() + " " + st.leap;
        long[] row = aheadMemo.get(key);
        if (row == null) {
            row = new long[10002];
            for (int i = 0; i <= 10000; i++) {
                row[i + 1] = row[i] + plainDays() + (leap(i) ? 1 : 0);
            }
            aheadMemo.put(key, row);
        }
        return row[y];
    }

    Year resolved(int y) {
        Year have = memo.get(y);
        if (have == null) {
            have = resolve(y);
            memo.put(y, have);
        }
        return have;
    }

    Year resolve(int number) {
        Year y = new Year();
        int n = st.feasts.size();
        y.leap = leap(number);
        y.days = plainDays() + (y.leap ? 1 : 0);
        y.first = (int) (ahead(number) % st.week);
        y.full = st.moonFirst + st.moonStep * (number % st.moonCycle) % st.moonSpan;
        y.pasch = y.full + 1;
        while (!y.sunday(y.pasch)) {
            y.pasch++;
        }
        y.day = new int[n];
        y.vigil = new int[n];
        y.place = new int[n];
        y.fate = new int[n];
        Arrays.fill(y.vigil, NONE);
        Arrays.fill(y.place, NONE);
        Arrays.fill(y.fate, NONE);
        for (int f = 0; f < n; f++) {
            Feast x = st.feasts.get(f);
            int d = x.day;
            if (x.moving) {
                d += y.pasch;
            } else {
                for (int m = 0; m < x.month; m++) {
                    d += st.months.get(m) + (y.leap && m == st.leapMonth ? 1 : 0);
                }
            }
            y.day[f] = y.has(d) ? d : NONE;
        }
        y.base = new Claim[y.days];
        for (int d = 0; d < y.days; d++) {
            y.base[d] = base(y, d);
        }
        y.office = y.base.clone();
        settle(y);
        return y;
    }

    Claim base(Year y, int d) {
        List<Claim> all = new ArrayList<>();
        all.add(new Claim(0, 0, NONE, false));
        if (y.sunday(d)) {
            int rank = st.rest;
            for (int[] s : st.seasons) {
                if (y.pasch + s[0] <= d && d <= y.pasch + s[1]) {
                    rank = s[2];
                }
            }
            all.add(new Claim(rank, 3, NONE, false));
        }
        for (int f = 0; f < st.feasts.size(); f++) {
            Feast x = st.feasts.get(f);
            if (y.day[f] == NONE) {
                continue;
            }
            if (x.vigil > 0) {
                int v = y.day[f] - 1;
                if (y.sunday(v)) {
                    v--;
                }
                if (v == d) {
                    y.vigil[f] = d;
                    all.add(new Claim(x.vigil, 1, f, x.moving));
                }
            }
            if (x.octave > 0 && d > y.day[f] && d <= y.day[f] + st.week) {
                all.add(new Claim(x.octave, 2, f, x.moving));
            }
        }
        return all.stream().max(Claim::compareTo).get();
    }

    Claim claim(int f) {
        Feast x = st.feasts.get(f);
        return new Claim(x.rank, 4, f, x.moving);
    }

    List<Integer> ranking() {
        List<Integer> r = new ArrayList<>();
        for (int f = 0; f < st.feasts.size(); f++) {
            r.add(f);
        }
        r.sort((a, b) -> claim(b).compareTo(claim(a)));
        return r;
    }

    void settle(Year y) {
        for (int f : ranking()) {
            int d = y.day[f];
            if (d == NONE) {
                y.fate[f] = 5;
            } else if (claim(f).compareTo(y.base[d]) > 0 && y.office[d].kind != 4) {
                y.fate[f] = 0;
                y.place[f] = d;
                y.office[d] = claim(f);
            }
        }
        for (int f : ranking()) {
            if (y.fate[f] == NONE) {
                byLaw(y, f);
            }
        }
    }

    void byLaw(Year y, int f) {
        Feast x = st.feasts.get(f);
        if (x.law == 3) {
            y.fate[f] = 3;
        } else if (x.law == 2) {
            int already = 0;
            for (int g = 0; g < st.feasts.size(); g++) {
                already += y.fate[g] == 2 && y.day[g] == y.day[f] ? 1 : 0;
            }
            y.fate[f] = already >= 2 ? 3 : 2;
        } else {
            y.fate[f] = 4;
            for (int k = 1; k <= st.reach; k++) {
                int d = x.law == 0 ? y.day[f] + k : y.day[f] - k;
                if (y.has(d) && !y.isClosed(d) && y.office[d].kind != 4 && y.base[d].rank < x.rank) {
                    y.fate[f] = 1;
                    y.place[f] = d;
                    y.office[d] = claim(f);
                    return;
                }
            }
        }
    }

    // ---- checks

    void needBook() {
        if (!st.told) {
            throw new IllegalStateException();
        }
    }

    void needYear(int y) {
        if (!st.told || y < 0 || y > 9999) {
            throw new IndexOutOfBoundsException();
        }
    }

    void needDay(int y, int d) {
        needYear(y);
        if (!resolved(y).has(d)) {
            throw new IndexOutOfBoundsException();
        }
    }

    void needFeast(int f) {
        if (f < 0 || f >= st.feasts.size()) {
            throw new IndexOutOfBoundsException();
        }
    }

    void needWhat(int what, int most) {
        if (what < 0 || what > most) {
            throw new NoSuchElementException();
        }
    }

    void need(boolean ok) {
        if (!ok) {
            throw new IllegalArgumentException();
        }
    }

    // ---- the face

    int feed(int a, int b, int c, int d, int e) {
        if (tape.length + 20 > 400) {
            return NONE;
        }
        byte[] more = Arrays.copyOf(tape, tape.length + 20);
        int at = tape.length;
        for (int n : new int[] {a, b, c, d, e}) {
            more[at++] = (byte) (n >>> 24);
            more[at++] = (byte) (n >>> 16);
            more[at++] = (byte) (n >>> 8);
            more[at++] = (byte) n;
        }
        tape = more;
        return tape.length;
    }

    boolean end(int n) {
        if (n < 0 || n > tape.length) {
            return false;
        }
        tape = Arrays.copyOf(tape, n);
        return true;
    }

    int book() {
        ReferenceText text = new ReferenceText(tape);
        tape = new byte[0];
        try {
            State s = text.read();
            fault = NONE;
            st = s;
            past.clear();
            memo.clear();
        } catch (ReferenceText.Wrong w) {
            fault = w.at;
            throw new IllegalArgumentException();
        }
        return st.feasts.size();
    }

    int fault() {
        return fault;
    }

    int year(int year, int what) {
        needYear(year);
        needWhat(what, 10);
        Year y = resolved(year);
        int n = 0;
        int run = 0;
        int best = 0;
        switch (what) {
            case 0: return y.days;
            case 1: return y.first;
            case 2: return y.full;
            case 3: return y.pasch;
            case 4:
                for (Claim c : y.office) {
                    n += c.kind == 0 ? 1 : 0;
                }
                return n;
            case 5: return y.run();
            case 6: return y.leap ? 1 : 0;
            case 7:
            case 8:
                for (int d = 0; d < y.days; d++) {
                    run = y.fast(d) ? run + 1 : 0;
                    n += y.fast(d) ? 1 : 0;
                    best = Math.max(best, run);
                }
                return what == 7 ? n : best;
            case 9:
                for (int d = 0; d < y.days; d++) {
                    int here = 0;
                    for (int x : y.day) {
                        here += x == d ? 1 : 0;
                    }
                    n += here > 1 ? 1 : 0;
                }
                return n;
            default:
                for (Claim c : y.office) {
                    n += c.rank;
                }
                return n;
        }
    }

    int day(int year, int day, int what) {
        needDay(year, day);
        needWhat(what, 3);
        Year y = resolved(year);
        if (what == 2) {
            return y.weekday(day);
        }
        if (what == 3) {
            return y.isClosed(day) ? 1 : 0;
        }
        int m = 0;
        int d = day;
        while (true) {
            int length = st.months.get(m) + (y.leap && m == st.leapMonth ? 1 : 0);
            if (d < length) {
                return what == 0 ? m : d;
            }
            d -= length;
            m++;
        }
    }

    int office(int year, int day, int what) {
        needDay(year, day);
        needWhat(what, 2);
        return resolved(year).office[day].tell(what);
    }

    int base(int year, int day, int what) {
        needDay(year, day);
        needWhat(what, 2);
        return resolved(year).base[day].tell(what);
    }

    boolean fast(int year, int day) {
        needDay(year, day);
        return resolved(year).fast(day);
    }

    int lesson(int year, int day) {
        needDay(year, day);
        return resolved(year).lesson(day);
    }

    int joined(int year, int day) {
        needDay(year, day);
        Year y = resolved(year);
        int bits = 0;
        for (int f = 0; f < st.feasts.size(); f++) {
            bits |= y.fate[f] == 2 && y.day[f] == day ? 1 << f : 0;
        }
        return bits;
    }

    int feast(int feast, int what) {
        needFeast(feast);
        needWhat(what, 6);
        Feast x = st.feasts.get(feast);
        int[] all = {x.rank, x.moving ? 1 : 0, x.moving ? NONE : x.month, x.day, x.law, x.vigil, x.octave};
        return all[what];
    }

    int of(int feast, int year, int what) {
        needFeast(feast);
        needYear(year);
        needWhat(what, 4);
        Year y = resolved(year);
        if (what < 3) {
            return new int[] {y.day[feast], y.place[feast], y.fate[feast]}[what];
        }
        if (y.fate[feast] == 0 || y.fate[feast] == 5) {
            return NONE;
        }
        for (int g = 0; g < st.feasts.size(); g++) {
            if (y.fate[g] == 0 && y.place[g] == y.day[feast]) {
                return what == 3 ? g : 4;
            }
        }
        return what == 3 ? NONE : y.base[y.day[feast]].kind;
    }

    void changed() {
        past.add(st.copy());
        if (past.size() > 8) {
            past.remove(0);
        }
        memo.clear();
    }

    int rank(int feast, int n) {
        needFeast(feast);
        need(n >= 1 && n <= 9);
        changed();
        int was = st.feasts.get(feast).rank;
        st.feasts.get(feast).rank = n;
        return was;
    }

    int law(int feast, int n) {
        needFeast(feast);
        need(n >= 0 && n <= 3);
        changed();
        int was = st.feasts.get(feast).law;
        st.feasts.get(feast).law = n;
        return was;
    }

    int put(int feast, int month, int day) {
        needFeast(feast);
        Feast x = st.feasts.get(feast);
        if (x.moving) {
            need(month == NONE && day >= -99 && day <= 99);
        } else {
            need(month >= 0 && month < st.months.size());
            need(day >= 0 && day < st.months.get(month));
        }
        changed();
        boolean other = x.month != month || x.day != day;
        x.month = month;
        x.day = day;
        return other ? 1 : 0;
    }

    int reach(int n) {
        needBook();
        need(n >= 1 && n <= 60);
        changed();
        int was = st.reach;
        st.reach = n;
        return was;
    }

    int undo() {
        if (past.isEmpty()) {
            throw new IllegalStateException();
        }
        st = past.remove(past.size() - 1);
        memo.clear();
        return past.size();
    }

    int cycle() {
        needBook();
        for (int n = 1;; n++) {
            if (n % st.moonCycle == 0 && (st.leap == 0 || n % st.leap == 0) && ahead(n) % st.week == 0) {
                return n;
            }
        }
    }

    int fates(int feast, int fate, boolean first) {
        needFeast(feast);
        need(fate >= 0 && fate <= 5);
        int n = 0;
        int c = cycle();
        for (int y = 0; y < c; y++) {
            if (resolved(y).fate[feast] == fate) {
                if (first) {
                    return y;
                }
                n++;
            }
        }
        return first ? NONE : n;
    }

    int far(int feast) {
        needFeast(feast);
        int best = 0;
        int c = cycle();
        for (int i = 0; i < c; i++) {
            Year y = resolved(i);
            if (y.fate[feast] == 1) {
                best = Math.max(best, Math.abs(y.place[feast] - y.day[feast]));
            }
        }
        return best;
    }

    int extreme(List<Integer> all, boolean most) {
        return all.isEmpty() ? NONE : most ? java.util.Collections.max(all) : java.util.Collections.min(all);
    }

    int span(int feast, boolean most) {
        needFeast(feast);
        List<Integer> all = new ArrayList<>();
        int c = cycle();
        for (int i = 0; i < c; i++) {
            if (resolved(i).place[feast] != NONE) {
                all.add(resolved(i).place[feast]);
            }
        }
        return extreme(all, most);
    }

    int meets(int feast) {
        needFeast(feast);
        int bits = 0;
        int c = cycle();
        for (int i = 0; i < c; i++) {
            Year y = resolved(i);
            for (int g = 0; g < st.feasts.size(); g++) {
                if (g != feast && y.day[g] != NONE && y.day[g] == y.day[feast]) {
                    bits |= 1 << g;
                }
            }
        }
        return bits;
    }

    boolean beats(int feast, int other) {
        needFeast(feast);
        needFeast(other);
        need(feast != other);
        return claim(feast).compareTo(claim(other)) > 0;
    }

    int safe(int feast) {
        needFeast(feast);
        State real = st;
        int found = NONE;
        for (int r = 1; r <= 9 && found == NONE; r++) {
            st = real.copy();
            st.feasts.get(feast).rank = r;
            memo.clear();
            boolean all = true;
            int c = cycle();
            for (int i = 0; i < c && all; i++) {
                int fate = resolved(i).fate[feast];
                all = fate == 0 || fate == 5;
            }
            found = all ? r : NONE;
        }
        st = real;
        memo.clear();
        return found;
    }

    int next(int feast, int weekday, int year) {
        needFeast(feast);
        needYear(year);
        need(weekday >= 0 && weekday < st.week);
        int c = cycle();
        for (int i = year; i < year + c && i <= 9999; i++) {
            Year y = resolved(i);
            if (y.place[feast] != NONE && y.weekday(y.place[feast]) == weekday) {
                return i;
            }
        }
        return NONE;
    }

    int unresolved() {
        needBook();
        int c = cycle();
        for (int i = 0; i < c; i++) {
            for (int fate : resolved(i).fate) {
                if (fate == 4) {
                    return i;
                }
            }
        }
        return NONE;
    }

    int paschs(int day) {
        needBook();
        int n = 0;
        int c = cycle();
        for (int i = 0; i < c; i++) {
            n += resolved(i).pasch == day ? 1 : 0;
        }
        return n;
    }

    boolean alike(int year, int other) {
        needYear(year);
        needYear(other);
        Year a = resolved(year);
        Year b = resolved(other);
        return a.days == b.days && a.first == b.first && a.pasch == b.pasch;
    }

    int sorts() {
        needBook();
        Set<String> seen = new HashSet<>();
        int c = cycle();
        for (int i = 0; i < c; i++) {
            Year y = resolved(i);
            seen.add(y.days + " " + y.first + " " + y.pasch);
        }
        return seen.size();
    }

    int yields(int feast, int other) {
        needFeast(feast);
        needFeast(other);
        need(feast != other);
        int n = 0;
        int c = cycle();
        for (int i = 0; i < c; i++) {
            Year y = resolved(i);
            if (y.day[feast] != NONE && y.fate[feast] != 0 && y.fate[other] == 0 && y.place[other] == y.day[feast]) {
                n++;
            }
        }
        return n;
    }

    int course(int what) {
        needBook();
        needWhat(what, 3);
        List<Integer> all = new ArrayList<>();
        int c = cycle();
        for (int i = 0; i < c; i++) {
            Year y = resolved(i);
            int n = 0;
            for (int d = 0; d < y.days; d++) {
                n += y.office[d].kind == 0 && d >= y.pasch == what >= 2 ? 1 : 0;
            }
            all.add(n);
        }
        return extreme(all, what == 1 || what == 3);
    }

    int heaviest(int year, int n, boolean weight) {
        needYear(year);
        need(n >= 1 && n <= 60);
        Year y = resolved(year);
        int best = NONE;
        int most = NONE;
        for (int a = 0; a + n <= y.days; a++) {
            int w = 0;
            for (int d = a; d < a + n; d++) {
                w += y.office[d].rank;
            }
            if (w > most) {
                most = w;
                best = a;
            }
        }
        return weight ? most : best;
    }

    int interval(int feast, boolean most) {
        needFeast(feast);
        List<Integer> all = new ArrayList<>();
        int c = cycle();
        for (int i = 0; i < c; i++) {
            int a = resolved(i).place[feast];
            int b = resolved(i + 1).place[feast];
            if (a != NONE && b != NONE) {
                all.add((int) (ahead(i + 1) + b - ahead(i) - a));
            }
        }
        return extreme(all, most);
    }

    int order(int k) {
        return k < 0 || k >= st.feasts.size() ? NONE : ranking().get(k);
    }

    int better(int feast, int n, int what) {
        needFeast(feast);
        needWhat(what, 1);
        need(n >= 0 && n <= 5);
        State real = st;
        int told = st.feasts.get(feast).day;
        int best = NONE;
        int bestDay = 0;
        for (int d = told - n; d <= told + n; d++) {
            Feast x = real.feasts.get(feast);
            boolean can = x.moving ? d >= -99 && d <= 99 : d >= 0 && d < real.months.get(x.month);
            if (!can) {
                continue;
            }
            st = real.copy();
            st.feasts.get(feast).day = d;
            memo.clear();
            int many = fates(feast, 0, false);
            boolean nearer = Math.abs(d - told) < Math.abs(bestDay - told);
            if (many > best || many == best && nearer) {
                best = many;
                bestDay = d;
            }
        }
        st = real;
        memo.clear();
        return what == 0 ? bestDay : best;
    }

    int rival(int feast) {
        needFeast(feast);
        int best = NONE;
        int most = 0;
        for (int g = 0; g < st.feasts.size(); g++) {
            if (g != feast && yields(feast, g) > most) {
                most = yields(feast, g);
                best = g;
            }
        }
        return best;
    }

    int lull(int n) {
        needBook();
        need(n >= 1 && n <= 60);
        int c = cycle();
        for (int i = 0; i < c; i++) {
            if (resolved(i).run() >= n) {
                return i;
            }
        }
        return NONE;
    }

    int tally(int year, int fate) {
        needYear(year);
        need(fate >= 0 && fate <= 5);
        int n = 0;
        for (int x : resolved(year).fate) {
            n += x == fate ? 1 : 0;
        }
        return n;
    }

    int leader() {
        needBook();
        int best = NONE;
        for (int f = 0; f < st.feasts.size(); f++) {
            if (best == NONE || fates(f, 0, false) > fates(best, 0, false)) {
                best = f;
            }
        }
        return best;
    }

    void image() {
        img = st.copy();
    }

    boolean back() {
        if (img == null) {
            return false;
        }
        st = img.copy();
        past.clear();
        memo.clear();
        return true;
    }

    int count(int what) {
        int[] all = {st.week, st.months.size(), st.feasts.size(), st.seasons.size(), st.closed.size(), st.reach,
            st.rest, st.leap, past.size(), st.fasting, st.lift};
        return what < 0 || what >= all.length ? NONE : all[what];
    }
}
