import java.nio.charset.StandardCharsets;
import java.util.Arrays;
import java.util.Random;

/** Texts of books: made at random, spoilt, and fed to an object. */
final class Texts {
    private Texts() {
    }

    static byte[] bytes(String text) {
        return text.getBytes(StandardCharsets.ISO_8859_1);
    }

    static int[] fives(byte[] text, int from) {
        byte[] twenty = Arrays.copyOfRange(text, from, from + 20);
        int[] five = new int[5];
        for (int i = 0; i < 20; i++) {
            five[i / 4] = five[i / 4] << 8 | twenty[i] & 255;
        }
        return five;
    }

    static void feed(FeastBook x, String text) {
        byte[] all = bytes(text);
        x.end(0);
        for (int i = 0; i < all.length; i += 20) {
            int[] n = fives(all, i);
            x.feed(n[0], n[1], n[2], n[3], n[4]);
        }
        x.end(all.length);
    }

    static FeastBook told(String text) {
        FeastBook x = new FeastBook();
        feed(x, text);
        x.book();
        return x;
    }

    static String random(Random r) {
        StringBuilder s = new StringBuilder("book ");
        int week = 3 + r.nextInt(7);
        int months = 1 + r.nextInt(r.nextInt(4) == 0 ? 8 : 3);
        int[] length = new int[months];
        int all = 0;
        s.append(week);
        for (int i = 0; i < months; i++) {
            length[i] = 5 + r.nextInt(r.nextInt(3) == 0 ? 27 : 10);
            all += length[i];
            s.append(' ').append(length[i]);
        }
        if (r.nextInt(3) > 0) {
            s.append(" leap ").append(2 + r.nextInt(r.nextInt(4) == 0 ? 8 : 3)).append(' ').append(r.nextInt(months));
        }
        int span = 1 + r.nextInt(Math.max(1, Math.min(30, all - week)));
        int first = r.nextInt(Math.max(1, Math.min(100, all - week - span + 1)));
        s.append(" moon ").append(1 + r.nextInt(r.nextInt(6) == 0 ? 19 : 4)).append(' ').append(first);
        s.append(' ').append(r.nextInt(31)).append(' ').append(span);
        boolean full = r.nextInt(8) == 0;
        int lines = r.nextInt(full ? 26 : 13);
        for (int i = 0; i < lines; i++) {
            String more = full && i < 12 ? ";" + feast(r, length) : line(r, week, length);
            if (s.length() + more.length() < 395) {
                s.append(more);
            }
        }
        return s.toString();
    }

    private static int near(Random r) {
        return r.nextInt(12) == 0 ? r.nextInt(199) - 99 : r.nextInt(31) - 12;
    }

    private static String line(Random r, int week, int[] length) {
        String gap = r.nextInt(8) == 0 ? " ; " : ";";
        int a = near(r);
        int b = Math.min(99, a + r.nextInt(12));
        switch (r.nextInt(16)) {
            case 0: return gap + "reach " + (1 + r.nextInt(r.nextInt(2) == 0 ? 60 : 5));
            case 1: return gap + "rest " + r.nextInt(10);
            case 2: return gap + "lift " + (1 + r.nextInt(9));
            case 3: return gap + "fast " + r.nextInt(week);
            case 4: return gap + "season " + a + " " + b + " " + r.nextInt(10);
            case 5: return gap + "closed " + a + " " + b;
            default: return gap + feast(r, length);
        }
    }

    private static String feast(Random r, int[] length) {
        String s = "feast " + (1 + r.nextInt(9));
        if (r.nextBoolean()) {
            int m = r.nextInt(length.length);
            s += " on " + m + " " + (r.nextInt(3) == 0 ? length[m] - 1 : r.nextInt(Math.min(length[m], 8)));
        } else {
            s += " at " + near(r);
        }
        s += new String[] {" move", " back", " join", " drop"}[Math.min(3, r.nextInt(5))];
        if (r.nextInt(3) == 0) {
            s += " vigil " + (1 + r.nextInt(9));
        }
        if (r.nextInt(5) == 0) {
            s += " octave " + (1 + r.nextInt(9));
        }
        return s;
    }

    private static final String SIGNS = "0123456789 -;abcdeostvz#A\u00e9";
    private static final String[] PIECES = {";rest 3", "-5", "99", "100", " ", ";", "move", "vigil 3", "octave 2",
        "book", " 31", ";fast 0", ";lift 9", "closed", ";season -1 1 9", ";closed 0 0", ";feast 9 at 0 join"};

    static String spoil(Random r, String text) {
        int at = r.nextInt(text.length() + 1);
        String head = text.substring(0, at);
        String tail = text.substring(at);
        String sign = "" + SIGNS.charAt(r.nextInt(SIGNS.length()));
        switch (r.nextInt(5)) {
            case 0: return head;
            case 1: return head + sign + tail;
            case 2: return head + (tail.isEmpty() ? "" : tail.substring(1));
            case 3: return head + sign + (tail.isEmpty() ? "" : tail.substring(1));
            default: return head + PIECES[r.nextInt(PIECES.length)] + tail;
        }
    }
}
