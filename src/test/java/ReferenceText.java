import java.nio.charset.StandardCharsets;
import java.util.ArrayList;
import java.util.List;

/** The text of a book, cut into its things first and then read; the first wrong byte comes as Wrong. */
final class ReferenceText {
    static final class Wrong extends Exception {
        private static final long serialVersionUID = 1L;
        final int at;

        Wrong(int at) {
            this.at = at;
        }
    }

    private static final class Thing {
        final char sort;
        final String text;
        final int at;

        Thing(char sort, String text, int at) {
            this.sort = sort;
            this.text = text;
            this.at = at;
        }
    }

    // No byte of a text is this sign.
    private static final char END = '\uffff';

    private final List<Thing> things = new ArrayList<>();
    private int k;

    ReferenceText(byte[] bytes) {
        String s = new String(bytes, StandardCharsets.ISO_8859_1);
        int i = 0;
        while (i < s.length()) {
            int j = i;
            if (s.charAt(i) == ' ') {
                i++;
                continue;
            }
            if (digit(s, i)) {
                while (digit(s, j)) {
                    j++;
                }
                things.add(new Thing('n', s.substring(i, j), i));
            } else if (letter(s, i)) {
                while (letter(s, j)) {
                    j++;
                }
                things.add(new Thing('w', s.substring(i, j), i));
            } else {
                j++;
                things.add(new Thing(s.charAt(i), "", i));
            }
            i = j;
        }
        things.add(new Thing(END, "", s.length()));
    }

    private static boolean digit(String s, int i) {
        return i < s.length() && s.charAt(i) >= '0' && s.charAt(i) <= '9';
    }

    private static boolean letter(String s, int i) {
        return i < s.length() && s.charAt(i) >= 'a' && s.charAt(i) <= 'z';
    }

    private boolean comes(String word) {
        return things.get(k).sort == 'w' && things.get(k).text.equals(word);
    }

    private void word(String word) throws Wrong {
        if (!comes(word)) {
            throw new Wrong(things.get(k).at);
        }
        k++;
    }

    private int number(int low, int high) throws Wrong {
        Thing t = things.get(k);
        if (t.sort != 'n' || t.text.length() > 2) {
            throw new Wrong(t.at);
        }
        int n = Integer.parseInt(t.text);
        if (n < low || n > high) {
            throw new Wrong(t.at);
        }
        k++;
        return n;
    }

    private int signed(int low) throws Wrong {
        Thing t = things.get(k);
        if (t.sort != '-') {
            return number(low, 99);
        }
        Thing u = things.get(k + 1);
        if (u.sort != 'n' || u.at != t.at + 1) {
            throw new Wrong(t.at + 1);
        }
        if (u.text.length() > 2 || -Integer.parseInt(u.text) < low) {
            throw new Wrong(t.at);
        }
        k += 2;
        return -Integer.parseInt(u.text);
    }

    Reference.State read() throws Wrong {
        Reference.State s = new Reference.State();
        word("book");
        s.week = number(3, 9);
        s.months.add(number(5, 31));
        while (things.get(k).sort == 'n') {
            if (s.months.size() == 8) {
                throw new Wrong(things.get(k).at);
            }
            s.months.add(number(5, 31));
        }
        if (comes("leap")) {
            k++;
            s.leap = number(2, 9);
            s.leapMonth = number(0, s.months.size() - 1);
        }
        word("moon");
        s.moonCycle = number(1, 19);
        s.moonFirst = number(0, 99);
        s.moonStep = number(0, 30);
        int at = things.get(k).at;
        s.moonSpan = number(1, 30);
        int all = 0;
        for (int m : s.months) {
            all += m;
        }
        if (s.moonFirst + s.moonSpan + s.week > all) {
            throw new Wrong(at);
        }
        List<String> told = new ArrayList<>();
        while (things.get(k).sort != END) {
            if (things.get(k).sort != ';') {
                throw new Wrong(things.get(k).at);
            }
            k++;
            line(s, told);
        }
        s.told = true;
        return s;
    }

    private void line(Reference.State s, List<String> told) throws Wrong {
        Thing t = things.get(k);
        if (t.sort != 'w' || told.size() == 24) {
            throw new Wrong(t.at);
        }
        boolean once = t.text.equals("reach") || t.text.equals("rest") || t.text.equals("lift");
        if (once && told.contains(t.text)) {
            throw new Wrong(t.at);
        }
        k++;
        switch (t.text) {
            case "reach": s.reach = number(1, 60); break;
            case "rest": s.rest = number(0, 9); break;
            case "lift": s.lift = number(1, 9); break;
            case "fast": fast(s); break;
            case "season":
            case "closed": times(s, t); break;
            case "feast": feast(s, t); break;
            default: throw new Wrong(t.at);
        }
        told.add(t.text);
    }

    private void fast(Reference.State s) throws Wrong {
        int at = things.get(k).at;
        int w = number(0, s.week - 1);
        if ((s.fasting & 1 << w) != 0) {
            throw new Wrong(at);
        }
        s.fasting |= 1 << w;
    }

    private void times(Reference.State s, Thing t) throws Wrong {
        boolean season = t.text.equals("season");
        List<int[]> list = season ? s.seasons : s.closed;
        if (list.size() == 4) {
            throw new Wrong(t.at);
        }
        int a = signed(-99);
        int b = signed(a);
        list.add(new int[] {a, b, season ? number(0, 9) : 0});
    }

    private void feast(Reference.State s, Thing t) throws Wrong {
        if (s.feasts.size() == 12) {
            throw new Wrong(t.at);
        }
        Reference.Feast f = new Reference.Feast();
        f.rank = number(1, 9);
        if (comes("on")) {
            k++;
            f.month = number(0, s.months.size() - 1);
            f.day = number(0, s.months.get(f.month) - 1);
        } else {
            word("at");
            f.moving = true;
            f.day = signed(-99);
        }
        String[] laws = {"move", "back", "join", "drop"};
        f.law = -1;
        for (int i = 0; i < 4; i++) {
            f.law = comes(laws[i]) ? i : f.law;
        }
        if (f.law < 0) {
            throw new Wrong(things.get(k).at);
        }
        k++;
        if (comes("vigil")) {
            k++;
            f.vigil = number(1, 9);
        }
        if (comes("octave")) {
            k++;
            f.octave = number(1, 9);
        }
        s.feasts.add(f);
    }
}
