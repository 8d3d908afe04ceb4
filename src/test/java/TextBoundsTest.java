import java.util.regex.Matcher;
import java.util.regex.Pattern;

/**
 * The bounds that 'Terms' names for THE BOOK and its text: the last number that is taken and the first one that is
 * refused on either side, nothing told, all places taken, one too many; and where a refused text is wrong.
 * In a text @ is where a number goes; # marks the first wrong byte and is not in the text itself.
 */
public final class TextBoundsTest {
    private static final Check CHECK = new Check("TextBoundsTest");
    private static final String HEAD = "book 3 5 5 moon 1 0 0 1";
    private static final String RICH = "book 7 20 10 8 leap 3 1 moon 4 5 7 9;reach 12;rest 3;lift 4;fast 1;fast 6"
        + ";season -12 10 4;closed -5 -3;closed 2 6;feast 5 on 0 8 drop vigil 1 octave 2;feast 6 at -3 move octave 1"
        + ";feast 7 at 4 back vigil 3;feast 8 on 2 7 join";

    private interface Ask {
        int of(FeastBook x);
    }

    private static int faultOf(String text) {
        FeastBook x = new FeastBook();
        Texts.feed(x, text);
        try {
            x.book();
        } catch (IllegalArgumentException e) {
            return x.fault();
        }
        return x.fault() == -1 ? -1 : -2;
    }

    private static void taken(String why, String text) {
        CHECK.due(why + ", taken: " + text, -1, () -> faultOf(text));
    }

    private static void refused(String why, String marked) {
        int at = marked.indexOf('#');
        String text = marked.substring(0, at) + marked.substring(at + 1);
        CHECK.due(why + ", refused: " + marked, at, () -> faultOf(text));
    }

    private static void told(String why, String text, int want, Ask ask) {
        taken(why, text);
        CHECK.due(why + ", told by: " + text, want, () -> ask.of(Texts.told(text)));
    }

    /** Both ends are taken and told, what is one beyond them is refused where the number begins. */
    private static void bounds(String why, String form, int low, int high, Ask ask) {
        told(why, form.replace("@", "" + low), low, ask);
        told(why, form.replace("@", "" + high), high, ask);
        refused(why, form.replace("@", "#" + (low - 1)));
        refused(why, form.replace("@", "#" + (high + 1)));
    }

    private static void week() {
        bounds("WEEK 3 to 9", "book @ 31 moon 1 0 0 1", 3, 9, x -> x.count(0));
        told("no BOOK, no WEEK", HEAD, 0, x -> new FeastBook().count(0));
    }

    private static void months() {
        bounds("MONTHS of 5 to 31 days", "book 3 @ moon 1 0 0 1", 5, 31, x -> x.year(0, 0));
        bounds("MONTHS of 5 to 31 days, the second", "book 3 9 @ 9 moon 1 0 0 1", 5, 31, x -> x.year(0, 0) - 18);
        bounds("MONTHS of 5 to 31 days, the eighth", "book 3 5 5 5 5 5 5 5 @ moon 1 0 0 1", 5, 31, x -> x.year(0, 0) - 35);
        told("MONTHS 1", "book 3 5 moon 1 0 0 1", 1, x -> x.count(1));
        told("MONTHS 8", "book 3 5 6 7 8 9 10 11 12 moon 1 0 0 1", 8, x -> x.count(1));
        refused("MONTHS 0", "book 3 #moon 1 0 0 1");
        refused("MONTHS 0", "book 3 #leap 2 0 moon 1 0 0 1");
        refused("MONTHS 9", "book 3 5 6 7 8 9 10 11 12 #13 moon 1 0 0 1");
        refused("MONTHS 9, whatever the ninth is", "book 3 5 6 7 8 9 10 11 12 #4");
        told("numbered from 0 on", "book 3 5 6 7 8 9 10 11 12 moon 1 0 0 1", 0, x -> x.day(0, 4, 0));
        told("numbered up to 7", "book 3 5 6 7 8 9 10 11 12 moon 1 0 0 1", 7, x -> x.day(0, 56, 0));
    }

    private static int longerMonth(FeastBook x) {
        int month = -1;
        for (int day = 0; day < x.year(0, 0); day++) {
            month = x.day(0, day, 1) == 5 ? x.day(0, day, 0) : month;
        }
        return month;
    }

    private static void leap() {
        told("LEAP: none", HEAD, 0, x -> x.count(7));
        told("LEAP: none, no YEAR is longer", HEAD, 0, x -> x.year(0, 6) + x.year(2, 6) + x.year(9, 6));
        bounds("L 2 to 9", "book 3 5 leap @ 0 moon 1 0 0 1", 2, 9, x -> x.count(7));
        bounds("the MONTH of eight", "book 3 5 5 5 5 5 5 5 5 leap 2 @ moon 1 0 0 1", 0, 7, TextBoundsTest::longerMonth);
        bounds("the MONTH of one", "book 3 5 leap 2 @ moon 1 0 0 1", 0, 0, TextBoundsTest::longerMonth);
        refused("leap at most once", "book 3 5 leap 2 0 #leap 2 0 moon 1 0 0 1");
    }

    private static void moon() {
        bounds("CYCLE 1 to 19", "book 3 30 moon @ 0 1 20", 1, 19, x -> x.cycle());
        bounds("FIRST 0 to 99", "book 3 31 31 31 31 moon 1 @ 0 1", 0, 99, x -> x.year(0, 2));
        told("STEP 0", "book 3 31 31 moon 2 0 0 30", 0, x -> x.year(1, 2));
        told("STEP 30", "book 3 31 31 moon 2 0 30 29", 1, x -> x.year(1, 2));
        refused("STEP 0 to 30", "book 3 31 31 moon 2 0 #31 30");
        refused("STEP 0 to 30", "book 3 31 31 moon 2 0 #-1 30");
        told("SPAN 1", "book 3 31 31 moon 2 0 29 1", 0, x -> x.year(1, 2));
        told("SPAN 30", "book 3 31 31 moon 2 0 29 30", 29, x -> x.year(1, 2));
        refused("SPAN 1 to 30", "book 3 31 31 moon 2 0 29 #0");
        refused("SPAN 1 to 30", "book 3 31 31 moon 2 0 29 #31");
    }

    /** FIRST, SPAN and WEEK, together, days of all MONTHS at most, else it is wrong at SPAN. */
    private static void firstSpanWeek() {
        String why = "FIRST, SPAN and WEEK";
        taken(why, "book 3 5 5 moon 1 0 0 7");
        refused(why, "book 3 5 5 moon 1 0 0 #8");
        taken(why, "book 3 5 5 moon 1 6 0 1");
        refused(why, "book 3 5 5 moon 1 7 0 #1");
        taken(why, "book 9 5 5 moon 1 0 0 1");
        refused(why, "book 9 5 5 moon 1 1 0 #1");
        refused(why, "book 9 9 moon 1 0 0 #1");
        taken(why, "book 9 10 moon 1 0 0 1");
        refused(why + " where FIRST alone is too much", "book 3 5 moon 1 99 0 #1");
        refused(why + " where WEEK alone is too much", "book 9 5 moon 1 0 0 #1");
        refused(why + " without the day of LEAP", "book 3 5 5 leap 2 0 moon 1 0 0 #8");
        taken(why + ", the most of all", "book 9 31 31 31 31 14 moon 1 99 0 30");
        refused(why + ", the most of all", "book 9 31 31 31 31 13 moon 1 99 0 #30");
        refused(why + ": a number of more digits is wrong as well", "book 3 5 5 moon 1 0 0 #001");
    }

    private static void settings() {
        told("REACH 20 at first", HEAD, 20, x -> x.count(5));
        bounds("REACH 1 to 60", HEAD + ";reach @", 1, 60, x -> x.count(5));
        told("REST 0 at first", HEAD, 0, x -> x.count(6));
        bounds("REST 0 to 9", HEAD + ";rest @", 0, 9, x -> x.count(6));
        told("LIFT 5 at first", HEAD, 5, x -> x.count(10));
        bounds("LIFT 1 to 9", HEAD + ";lift @", 1, 9, x -> x.count(10));
        String[] words = {"reach", "rest", "lift"};
        for (String word : words) {
            refused(word + " at most once", HEAD + ";" + word + " 3;#" + word + " 3");
            refused(word + " at most once", HEAD + ";" + word + " 3;fast 0;#" + word + " 4");
            refused(word + " at most once, whatever comes behind", HEAD + ";" + word + " 3;#" + word);
            taken(word + " is no other one", HEAD + ";reach 3;rest 3;lift 3");
        }
    }

    private static int lowestBit(FeastBook x) {
        return Integer.numberOfTrailingZeros(x.count(9));
    }

    private static void fasting() {
        told("FASTING: none at first", HEAD, 0, x -> x.count(9));
        bounds("a WEEKDAY of three", HEAD + ";fast @", 0, 2, TextBoundsTest::lowestBit);
        bounds("a WEEKDAY of nine", "book 9 31 moon 1 0 0 1;fast @", 0, 8, TextBoundsTest::lowestBit);
        told("all WEEKDAYS", HEAD + ";fast 1;fast 0;fast 2", 7, x -> x.count(9));
        refused("FASTING already", HEAD + ";fast 0;fast #0");
        refused("FASTING already", HEAD + ";fast 2;fast 1;fast #2");
        StringBuilder nine = new StringBuilder("book 9 31 moon 1 0 0 1");
        for (int i = 8; i >= 0; i--) {
            nine.append(";fast ").append(i);
        }
        told("all nine WEEKDAYS", nine.toString(), 511, x -> x.count(9));
        for (int i = 0; i < 9; i++) {
            refused("FASTING already, of nine", nine + ";fast #" + i);
        }
    }

    private static final String LONG = "book 3 31 31 31 31 31 31 31 31 moon 1 99 0 1";

    /** The first and the last CLOSED day, counted from PASCH. */
    private static int closedDay(FeastBook x, boolean last) {
        int found = 999;
        int pasch = x.year(0, 3);
        for (int day = 0; day < x.year(0, 0); day++) {
            if (x.day(0, day, 3) == 1 && (last || found == 999)) {
                found = day - pasch;
            }
        }
        return found;
    }

    private static void spans() {
        bounds("closed from", LONG + ";closed @ 99", -99, 99, x -> closedDay(x, false));
        bounds("closed to, above", LONG + ";closed -99 @", -99, 99, x -> closedDay(x, true));
        told("the second S no less", LONG + ";closed 7 7", 7, x -> closedDay(x, true));
        refused("the second S no less", LONG + ";closed 7 #6");
        told("the second S no less, below 0", LONG + ";closed -7 -7", -7, x -> closedDay(x, false));
        refused("the second S no less, below 0", LONG + ";closed -7 #-8");
        refused("the second S no less", LONG + ";closed 0 #-1");
        taken("- and 0", LONG + ";closed 0 -0");
        bounds("season from", LONG + ";season @ 99 4", -99, 99, x -> sundayOf(x, 4));
        told("season from, not a day earlier", LONG + ";season -98 99 4", -96, x -> sundayOf(x, 4));
        told("season to, not a day later", LONG + ";rest 4;season -99 98 0", 99, x -> sundayFrom(x, 0, 4));
        told("season to", LONG + ";rest 4;season -99 99 0", 102, x -> sundayFrom(x, 0, 4));
        refused("season: the second S no less", LONG + ";season 3 #2 1");
        taken("season: the second S no less", LONG + ";season 3 3 1");
        refused("season: the second S no less", LONG + ";season -3 #-4 1");
        refused("season: the second S at most 99", LONG + ";season -99 #100 1");
        bounds("RANK of a SEASON 0 to 9", LONG + ";rest 5;season 0 0 @", 0, 9, x -> x.base(0, x.year(0, 3), 1));
    }

    private static int sundayOf(FeastBook x, int rank) {
        return sundayFrom(x, -x.year(0, 3), rank);
    }

    /** The first SUNDAY with this RANK from a day on, both counted from PASCH. */
    private static int sundayFrom(FeastBook x, int first, int rank) {
        for (int day = x.year(0, 3) + first; day < x.year(0, 0); day++) {
            if (x.base(0, day, 0) == 3 && x.base(0, day, 1) == rank) {
                return day - x.year(0, 3);
            }
        }
        return 999;
    }

    private static void feasts() {
        bounds("RANK 1 to 9", HEAD + ";feast @ at 0 drop", 1, 9, x -> x.feast(0, 0));
        bounds("the only MONTH", "book 3 5 moon 1 0 0 1;feast 1 on @ 0 drop", 0, 0, x -> x.feast(0, 2));
        bounds("one of eight MONTHS", "book 3 5 5 5 5 5 5 5 5 moon 1 0 0 1;feast 1 on @ 0 drop", 0, 7, x -> x.feast(0, 2));
        bounds("a day of five", HEAD + ";feast 1 on 1 @ drop", 0, 4, x -> x.feast(0, 3));
        bounds("a day of 31", "book 3 5 31 6 moon 1 0 0 1;feast 1 on 1 @ drop", 0, 30, x -> x.feast(0, 3));
        bounds("the day as the MONTH is without LEAP", "book 3 5 leap 2 0 moon 1 0 0 1;feast 1 on 0 @ drop", 0, 4, x -> x.feast(0, 3));
        bounds("days behind PASCH", HEAD + ";feast 1 at @ drop", -99, 99, x -> x.feast(0, 3));
        bounds("VIGIL 1 to 9", HEAD + ";feast 1 at 0 drop vigil @", 1, 9, x -> x.feast(0, 5));
        bounds("OCTAVE 1 to 9", HEAD + ";feast 1 at 0 drop octave @", 1, 9, x -> x.feast(0, 6));
        bounds("OCTAVE 1 to 9 behind a VIGIL", HEAD + ";feast 1 at 0 drop vigil 3 octave @", 1, 9, x -> x.feast(0, 6));
        told("VIGIL: none", HEAD + ";feast 1 at 0 drop octave 3", 0, x -> x.feast(0, 5));
        told("OCTAVE: none", HEAD + ";feast 1 at 0 drop vigil 3", 0, x -> x.feast(0, 6));
        String[] laws = {"move", "back", "join", "drop"};
        for (int i = 0; i < laws.length; i++) {
            told("LAW " + laws[i], HEAD + ";feast 1 at 0 " + laws[i], i, x -> x.feast(0, 4));
        }
        refused("LAW must come", HEAD + ";feast 1 at 0 #vigil 3");
        refused("VIGIL ahead of OCTAVE", HEAD + ";feast 1 at 0 drop octave 3 #vigil 3");
        refused("VIGIL once", HEAD + ";feast 1 at 0 drop vigil 3 #vigil 3");
        refused("OCTAVE once", HEAD + ";feast 1 at 0 drop octave 3 #octave 3");
    }

    private static String times(String line, int many) {
        return line.repeat(many);
    }

    private static void placesTaken() {
        told("SEASONS, none", HEAD, 0, x -> x.count(3));
        told("SEASONS, at most 4", HEAD + times(";season 0 0 1", 4), 4, x -> x.count(3));
        refused("a SEASON too many", HEAD + times(";season 0 0 1", 4) + ";#season 0 0 1");
        refused("a SEASON too many, whatever comes behind", HEAD + times(";season 0 0 1", 4) + ";#season");
        told("CLOSED, none", HEAD, 0, x -> x.count(4));
        told("CLOSED, at most 4", HEAD + times(";closed 0 0", 4), 4, x -> x.count(4));
        refused("a CLOSED too many", HEAD + times(";closed 0 0", 4) + ";#closed 0 0");
        told("four of both", HEAD + times(";season 0 0 1;closed 0 0", 4), 8, x -> x.count(3) + x.count(4));
        told("FEASTS, none", HEAD, 0, x -> x.count(2));
        told("FEASTS, at most 12", HEAD + times(";feast 1 at 0 drop", 12), 12, x -> x.count(2));
        told("numbered up to 11", HEAD + times(";feast 1 at 0 drop", 11) + ";feast 9 on 1 4 join", 9, x -> x.feast(11, 0));
        refused("a FEAST too many", HEAD + times(";feast 1 at 0 drop", 12) + ";#feast 1 at 0 drop");
        refused("a FEAST too many, whatever comes behind", HEAD + times(";feast 1 at 0 drop", 12) + ";#feast 0");
    }

    private static void lines() {
        String all = "book 9 31 moon 1 0 0 1" + times(";feast 1 at 0 drop", 8);
        StringBuilder most = new StringBuilder(all + times(";closed 0 0", 4) + ";rest 1;lift 1;reach 1");
        for (int i = 0; i < 9; i++) {
            most.append(";fast ").append(i);
        }
        taken("LINES, none", HEAD);
        told("LINES, at most 24", most.toString(), 511, x -> x.count(9));
        refused("a LINE too many", most + ";#season 0 0 1");
        refused("a LINE too many", most + " ;  #feast 1 at 0 drop");
        refused("a LINE too many, whatever word it has", most + ";#x");
        refused("a LINE too many, if none comes", most + ";#");
        refused("a LINE too many, if none comes but blanks", most + ";  #");
    }

    private static void numbers() {
        Matcher m = Pattern.compile("-?[0-9]+").matcher(RICH);
        taken("a rich text", RICH);
        while (m.find()) {
            String head = RICH.substring(0, m.start());
            String tail = RICH.substring(m.end());
            String number = m.group().replace("-", "");
            String sign = m.group().startsWith("-") ? "-" : "";
            String two = sign + (number.length() == 1 ? "0" + number : number);
            taken("two digits", head + two + tail);
            refused("three digits", head + "#" + sign + (number.length() == 1 ? "00" : "0") + number + tail);
            refused("many digits", head + "#" + sign + "0000000000000000000000" + number + tail);
            refused("no number", head + "#x" + tail);
            refused("more must come", head + "#");
            if (!sign.isEmpty()) {
                refused("blanks behind a -", head + "-# " + number + tail);
                refused("a - twice", head + "-#-" + number + tail);
                refused("more must come behind a -", head + "-#");
            }
        }
    }

    private static void blanks() {
        taken("blanks ahead and behind", "     " + RICH + "      ");
        taken("blanks between all", RICH.replace(";", " ; ").replace(" ", "  "));
        taken("no blanks that are not needed", RICH.replaceAll("(?<=[a-z]) (?=[0-9-])|(?<=[0-9]) (?=[a-z-])", ""));
        for (int i = 0; i < 256; i++) {
            char sign = (char) i;
            if (i == 32) {
                taken("32 is a blank", "book" + sign + "3 5 5" + sign + "moon 1 0 0 1" + sign + ";rest 3" + sign);
                taken("32 ahead", sign + HEAD);
            } else {
                refused(i + " is no blank, ahead", "#" + sign + " " + HEAD);
                boolean letter = i >= 'a' && i <= 'z';
                boolean digit = i >= '0' && i <= '9';
                String behind = digit ? "book 3 5 5 moon 1 0 0 #1" + sign : HEAD + "#" + sign;
                refused(i + " is no blank, behind", i == ';' ? HEAD + sign + "#" : behind);
                refused(i + " is no blank, behind a word", letter ? "#book" + sign + " 3" : digit ? "book #3" + sign + " 5"
                    : "book#" + sign + " 3 5");
            }
        }
    }

    private static void lengths() {
        String right = HEAD + ";rest 3";
        String full = right + " ".repeat(400 - right.length());
        told("a text of 400 bytes", full, 3, x -> x.count(6));
        told("a text of 400 bytes, with blanks ahead", " ".repeat(400 - right.length()) + right, 3, x -> x.count(6));
        refused("400 bytes, if more must come", " ".repeat(400) + "#");
        refused("400 bytes, the last one is wrong", HEAD + " ".repeat(399 - HEAD.length()) + "#x");
        refused("nothing", "#");
    }

    /** Cut at each byte: more must come, a word is cut and is none any more, or it is a text all the same. */
    private static void cut() {
        for (int i = 0; i < RICH.length(); i++) {
            String head = RICH.substring(0, i);
            Matcher m = Pattern.compile("[a-z]+$").matcher(head);
            boolean inWord = i < RICH.length() && RICH.charAt(i) >= 'a' && RICH.charAt(i) <= 'z';
            boolean isText = head.matches("book [^a-z]* leap 3 1 moon 4 5 7 9(;(reach|rest|lift|fast) [0-9]+"
                + "|;season -?[0-9]+ [0-9]+ [0-9]+|;closed -?[0-9]+ -?[0-9]+"
                + "|;feast [0-9] (on [0-9] [0-9]|at -?[0-9]) (move|back|join|drop)( vigil [0-9])?( octave [0-9])?)* ?");
            int want = isText ? -1 : inWord && m.find() ? m.start() : head.length();
            // Of these numbers the first digit alone is too little, or less than the first S.
            if (head.endsWith("20 1") || head.endsWith("book 7 2")) {
                want = head.length() - 1;
            }
            int due = want;
            CHECK.due("cut: " + head, due, () -> faultOf(head));
        }
    }

    /** Of a wrong text nothing stays, wherever it is wrong; and it is in place of the one before, if it is right. */
    private static void nothingStays() {
        Matcher m = Pattern.compile("[a-z]+|[0-9]+").matcher(RICH);
        while (m.find()) {
            String text = RICH.substring(0, m.start()) + "?" + RICH.substring(m.start());
            FeastBook x = Texts.told("book 4 9 moon 1 0 0 1");
            Texts.feed(x, text);
            CHECK.due("wrong: " + text, IllegalArgumentException.class, () -> x.book());
            int[] counts = {4, 1, 0, 0, 0, 20, 0, 0, 0, 0, 5, -1};
            for (int i = 0; i < counts.length; i++) {
                int what = i;
                CHECK.due("count " + i + " behind the wrong text " + text, counts[i], () -> x.count(what));
            }
            CHECK.due("days behind the wrong text " + text, 9, () -> x.year(0, 0));
            CHECK.due("PASCH behind the wrong text " + text, 4, () -> x.year(0, 3));
            CHECK.due("not CLOSED behind the wrong text " + text, 0, () -> x.day(0, 6, 3));
            Texts.feed(x, HEAD);
            CHECK.due("a right text behind " + text, 0, () -> x.book());
            int[] second = {3, 2, 0, 0, 0, 20, 0, 0, 0, 0, 5, -1};
            for (int i = 0; i < second.length; i++) {
                int what = i;
                CHECK.due("count " + i + " of a right text behind " + text, second[i], () -> x.count(what));
            }
        }
    }

    public static void main(String[] args) {
        week();
        months();
        leap();
        moon();
        firstSpanWeek();
        settings();
        fasting();
        spans();
        feasts();
        placesTaken();
        lines();
        numbers();
        blanks();
        lengths();
        cut();
        nothingStays();
        CHECK.finish();
    }
}
