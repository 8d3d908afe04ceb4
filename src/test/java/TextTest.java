import java.util.Arrays;

/** The TAPE and the text of a book: promises 2 to 5, and what the terms say of the first wrong byte. */
public final class TextTest {
    private static final Check CHECK = new Check("TextTest");
    private static final String HEAD = "book 3 5 5 moon 1 0 0 1";

    private static void right(String text, int feasts) {
        FeastBook x = new FeastBook();
        Texts.feed(x, text);
        CHECK.due("book of '" + text + "'", feasts, () -> x.book());
        CHECK.due("fault of '" + text + "'", -1, () -> x.fault());
    }

    /** The place of the mark # is the first wrong byte; the mark itself is not in the text. */
    private static void wrong(String marked) {
        int at = marked.indexOf('#');
        String text = marked.substring(0, at) + marked.substring(at + 1);
        FeastBook x = Texts.told("book 4 9 moon 1 0 0 1;rest 7;feast 2 at 0 drop");
        x.rank(0, 3);
        Texts.feed(x, text);
        CHECK.due("book of '" + marked + "'", IllegalArgumentException.class, () -> x.book());
        CHECK.due("fault of '" + marked + "'", at, () -> x.fault());
        CHECK.due("the tape behind '" + marked + "'", false, () -> x.end(1));
        CHECK.due("WEEK behind '" + marked + "'", 4, () -> x.count(0));
        CHECK.due("REST behind '" + marked + "'", 7, () -> x.count(6));
        CHECK.due("FEASTS behind '" + marked + "'", 1, () -> x.count(2));
        CHECK.due("what is remembered behind '" + marked + "'", 1, () -> x.count(8));
        CHECK.due("RANK behind '" + marked + "'", 3, () -> x.feast(0, 0));
    }

    private static void tape() {
        FeastBook x = new FeastBook();
        CHECK.due("fault at first", -1, () -> x.fault());
        CHECK.due("end of nothing", true, () -> x.end(0));
        CHECK.due("end beyond", false, () -> x.end(1));
        CHECK.due("end below", false, () -> x.end(-1));
        for (int i = 1; i <= 20; i++) {
            int many = i * 20;
            CHECK.due("feed " + i, many, () -> x.feed(1, 2, 3, 4, 5));
        }
        CHECK.due("feed a full tape", -1, () -> x.feed(1, 2, 3, 4, 5));
        CHECK.due("none came", false, () -> x.end(401));
        CHECK.due("end of all", true, () -> x.end(400));
        CHECK.due("end 381", true, () -> x.end(381));
        CHECK.due("feed without room", -1, () -> x.feed(1, 2, 3, 4, 5));
        CHECK.due("end 380", true, () -> x.end(380));
        CHECK.due("feed with room", 400, () -> x.feed(1, 2, 3, 4, 5));
        CHECK.due("end below, full", false, () -> x.end(Integer.MIN_VALUE));
    }

    private static void bytes() {
        FeastBook x = new FeastBook();
        CHECK.due("highest first", 20, () -> x.feed(0x626f6f6b, 0x20332035, 0x2035206d, 0x6f6f6e20, 0x31203020));
        CHECK.due("then", 40, () -> x.feed(0x30203100, -1, -1, -1, -1));
        CHECK.due("cut", true, () -> x.end(23));
        CHECK.due("book", 0, () -> x.book());
        CHECK.due("used up", false, () -> x.end(1));
        CHECK.due("feed behind a book", 20, () -> x.feed(0, 0, 0, 0, 0));
        CHECK.due("book of zeros", IllegalArgumentException.class, () -> x.book());
        CHECK.due("fault of zeros", 0, () -> x.fault());
        CHECK.due("feed anew", 20, () -> x.feed(0x20202020, 0xe2e2e2e2, 0, 0, 0));
        CHECK.due("book of high bytes", IllegalArgumentException.class, () -> x.book());
        CHECK.due("fault of high bytes", 4, () -> x.fault());
        CHECK.due("the book stays", 3, () -> x.count(0));
    }

    /** What was cut off, or used up by an earlier text, is not in the text any more. */
    private static void leftovers(String text, int length) {
        FeastBook x = Texts.told(text);
        Texts.feed(x, text);
        x.end(length);
        CHECK.due("cut at " + length + ": " + text, IllegalArgumentException.class, () -> x.book());
        CHECK.due("fault cut at " + length + ": " + text, length, () -> x.fault());
        CHECK.due("nothing is left", IllegalArgumentException.class, () -> x.book());
        CHECK.due("fault of nothing", 0, () -> x.fault());
    }

    private static void cutTexts() {
        leftovers(HEAD + ";rest 0", HEAD.length() + 6);
        leftovers(HEAD + ";rest 0", HEAD.length() + 5);
        leftovers(HEAD + ";rest 0", HEAD.length() + 1);
        leftovers(HEAD + ";closed -0 0", HEAD.length() + 9);
        leftovers(HEAD + ";closed -0 0", HEAD.length() + 11);
        leftovers(HEAD + ";feast 1 on 0 0 drop", HEAD.length() + 12);
        leftovers(HEAD, 22);
        leftovers(HEAD, 20);
        leftovers(HEAD, 4);
        leftovers(HEAD, 0);
    }

    private static void rightTexts() {
        right(HEAD, 0);
        right("   book   3   5   5   moon   1   0   0   1   ", 0);
        right("book3 5 5moon1 0 0 1", 0);
        right("book 03 05 05 moon 01 00 00 01", 0);
        right("book 3 5 5 5 5 5 5 5 5 moon 19 9 30 28", 0);
        right("book 9 31 31 31 31 31 31 31 31 leap 9 7 moon 1 99 30 30", 0);
        right("book 3 5 leap 2 0 moon 1 0 0 2", 0);
        right("book 3 5 5 leap2 1moon 1 0 0 7", 0);
        right(HEAD + ";reach 60;rest 0;lift 9;fast 0;fast 2;fast 1", 0);
        right(HEAD + ";season-99 99 0;season -99-99 9;season 99 99 5;season -0 0 5", 0);
        right(HEAD + " ; closed 3 3 ; closed -5 -4;closed 1 2;closed 1 2", 0);
        right(HEAD + ";feast1at-99move;feast 9 on 1 4 back vigil 1 octave 9", 2);
        right(HEAD + ";feast 1 at 99 join octave 3;feast 1 on 0 0 drop vigil 3", 2);
        right(HEAD + ";rest 3;reach 3;lift 3", 0);
        StringBuilder most = new StringBuilder(HEAD);
        for (int i = 0; i < 12; i++) {
            most.append(";feast 1 at 0 drop");
        }
        right(most.toString(), 12);
        most.append(";fast 0;fast 1;fast 2;rest 1;lift 1;reach 1;closed 0 0;closed 0 0;closed 0 0;closed 0 0");
        most.append(";season 0 0 0;season 0 0 0");
        right(most.toString(), 12);
        wrong(most + ";#season 0 0 0");
        wrong(most + ";#");
        wrong(most + ";  #7");
    }

    private static void wrongHeads() {
        String[] all = {"#", "   #", "#bo", "#boo k", "#books 3", "#Book 3", "#3 5", "#;", "book#", "book  #",
            "book #2 5 moon", "book #10 5", "book #003 5", "book #-3 5", "book 3#", "book 3 #4", "book 3 #32",
            "book 3 #moon 1 0 0 1", "book 3 #100", "book 3 5 #4", "book 3 5 5#", "book 3 5 5 5 5 5 5 5 5 #5 moon",
            "book 3 5 5 5 5 5 5 5 5 #x", "book 3 5 5 #mo", "book 3 5 5 #lea 2 0", "book 3 5 5 #;",
            "book 3 5 5 leap #1 0", "book 3 5 5 leap #10 0", "book 3 5 5 leap 2 #2 moon", "book 3 5 5 leap 2#",
            "book 3 5 5 leap 2 0#", "book 3 5 5 leap 2 0 #leap 2 0 moon 1 0 0 1", "book 3 5 5 leap 2 0 #5 moon",
            "book 3 5 5 moon#", "book 3 5 5 moon #0 0 0 1", "book 3 5 5 moon #20 0 0 1", "book 3 5 5 moon 1 #100 0 1",
            "book 3 5 5 moon 1 0 #31 1", "book 3 5 5 moon 1 0 0 #0", "book 3 5 5 moon 1 0 0 #31",
            "book 3 5 5 moon 1 0 0 #8", "book 3 5 5 moon 1 1 0 #7", "book 3 5 5 moon 1 7 0 #1",
            "book 3 5 5 moon 1 99 0 #1", "book 3 5 5 moon 1 99 0#", "book 4 5 5 moon 1 0 0 #7",
            "book 3 5 5 leap 2 1 moon 1 0 0 #8", "book 3 5 5 moon 1 0 0#", "book 3 5 5 moon 1 0 0 1 #1",
            "book 3 5 5 moon 1 0 0 1 #x", "book 3 5 5 moon 1 0 0 1#-", "book 3 5 5 moon 1 0 0 1#\t;",
            "book 3#,5", "book 3 #-5"};
        Arrays.stream(all).forEach(TextTest::wrong);
    }

    private static void wrongLines() {
        String[] all = {";#", ";  #", ";#;", ";#rests 3", ";#5", ";#-", ";#res t 3", ";#book 3", ";rest#", ";rest #10",
            ";rest #-1", ";rest 3 #3", ";rest 3;#rest 3", ";rest 3;lift 3;#rest", ";reach #0", ";reach #61",
            ";reach #100", ";reach 1;#reach 1", ";lift #0", ";lift #10", ";lift 1;#lift 1", ";fast #3", ";fast 2;fast #2",
            ";fast #x", ";fast#", ";season#", ";season #x", ";season -#", ";season -# 5", ";season #-100 5 1",
            ";season #100", ";season 1 #0 1", ";season -1 #-2 1", ";season 1 #-1", ";season 1 1#", ";season 1 1 #10",
            ";season 1 1 #-1", ";season 1 1 1 #1", ";season 0 0 0;season 0 0 0;season 0 0 0;season 0 0 0;#season 0 0 0",
            ";closed 0 0 #0", ";closed 1 #0", ";closed -#-", ";closed -#-5 3",
            ";closed 0 0;closed 0 0;closed 0 0;closed 0 0;#closed",
            ";feast#", ";feast #0 at 1 move", ";feast #10", ";feast 5 #in", ";feast 5 #ats 1", ";feast 5 #3", ";feast 5#",
            ";feast 5 at#", ";feast 5 at #move", ";feast 5 at -#- 1", ";feast 5 at #-100 move", ";feast 5 at #100 move",
            ";feast 5 on #2 0 move", ";feast 5 on #-1", ";feast 5 on 1 #5 move", ";feast 5 on 0 #-1", ";feast 5 on 0 0#",
            ";feast 5 on 0 0 #moves", ";feast 5 on 0 0 #moveback", ";feast 5 on 0 0 move #back", ";feast 5 at 0 #0 move",
            ";feast 5 at 0 move vigil#", ";feast 5 at 0 move vigil #0", ";feast 5 at 0 move vigil #10",
            ";feast 5 at 0 move octave #0", ";feast 5 at 0 move octave #-1", ";feast 5 at 0 move vigil 1 #vigil 1",
            ";feast 5 at 0 move octave 1 #vigil 1", ";feast 5 at 0 move octave 1 #octave 1",
            ";feast 5 at 0 move vigil 1 octave 1 #octave 1", ";feast 5 at 0 move #vigils 1", ";feast 5 at 0 move #3",
            ";feast 5 at 0 move #rest 3", ";feast 5 at 0 move;feast 5 at 0 #hop"};
        for (String line : all) {
            wrong(HEAD + line);
        }
        StringBuilder most = new StringBuilder(HEAD);
        for (int i = 0; i < 12; i++) {
            most.append(";feast 1 at 0 drop");
        }
        wrong(most + ";#feast 1 at 0 drop");
        wrong("book 3 5 5 leap 2 1 moon 1 0 0 1;feast 5 on 1 #5 move");
    }

    public static void main(String[] args) {
        tape();
        bytes();
        cutTexts();
        rightTexts();
        wrongHeads();
        wrongLines();
        CHECK.finish();
    }
}
