/**
 * A text is told in place of the one before, changes by hand count at once, and what is taken back or gone back to is
 * as it was: all that was found out for another state is found out anew.
 */
public final class InPlaceTest {
    private static final Check CHECK = new Check("InPlaceTest");
    private static final String TURN = "book 3 5 5 leap 4 1 moon 1 0 0 1;rest 3;fast 1;season 0 1 2;closed 4 4"
        + ";feast 5 on 0 3 move;feast 4 at 0 move;feast 2 on 1 0 join;feast 9 on 1 0 drop vigil 6 octave 3;feast 1 at 2 back";

    private static final String TWELVE = "book 5 9 leap 2 0 moon 3 0 2 4;rest 2;reach 1;fast 1;fast 2"
        + ";feast 1 at 1 move vigil 1".repeat(3) + ";feast 9 on 0 8 move vigil 9 octave 9".repeat(3)
        + ";feast 5 on 0 8 back".repeat(3) + ";feast 9 at 2 join vigil 1".repeat(3);

    private static String cycleWide(FeastBook x) {
        Seen seen = new Seen();
        for (int feast = 0; feast < 12; feast++) {
            int f = feast;
            seen.ask(() -> x.fates(f, 0, true), () -> x.fates(f, 1, false), () -> x.rival(f), () -> x.far(f),
                () -> x.span(f, true), () -> x.meets(f), () -> x.safe(f), () -> x.interval(f, true),
                () -> x.better(f, 5, 1), () -> x.next(f, 1, 3));
        }
        for (int n = 0; n < 4; n++) {
            int k = n;
            seen.ask(() -> x.course(k), () -> x.lull(k + 1), () -> x.paschs(k + 3), () -> x.year(k, 8),
                () -> x.year(k, 9), () -> x.office(k, 4, 2));
        }
        seen.ask(() -> x.unresolved(), () -> x.sorts(), () -> x.leader(), () -> x.cycle());
        return seen.toString();
    }

    /** A text is told in place of the one before: nothing that was told, or found out, of that one stays. */
    private static void inPlaceOfTheOneBefore() {
        String[] texts = {TURN, TWELVE, "book 3 5 5 moon 1 0 0 1;feast 5 on 0 3 drop", "book 3 6 moon 1 0 0 1",
            "book 5 9 moon 3 0 2 4", TURN.replace("rest 3", "rest 4").replace("feast 5 on 0 3", "feast 6 on 0 2"),
            TWELVE.replace("rest 2", "rest 9"), "book 9 31 31 leap 9 1 moon 19 9 7 30;feast 3 at 4 move;feast 2 at 4 back"};
        for (String before : texts) {
            for (String text : texts) {
                CHECK.due("'" + text + "' told in place of '" + before + "'", cycleWide(Texts.told(text)), () -> {
                    FeastBook x = Texts.told(before);
                    cycleWide(x);
                    Texts.feed(x, text);
                    x.book();
                    return cycleWide(x);
                });
                CHECK.due("gone back to '" + text + "' from '" + before + "'", cycleWide(Texts.told(text)), () -> {
                    FeastBook x = Texts.told(text);
                    x.image();
                    Texts.feed(x, before);
                    x.book();
                    cycleWide(x);
                    x.back();
                    return cycleWide(x);
                });
            }
        }
    }

    private interface Change {
        int of(FeastBook x);
    }

    private static void foundAnew(String what, String text, Change change) {
        CHECK.due("found anew behind " + what, cycleWide(Texts.told(text)), () -> {
            FeastBook x = Texts.told(TURN);
            cycleWide(x);
            change.of(x);
            return cycleWide(x);
        });
        CHECK.due("as ahead of " + what, cycleWide(Texts.told(TURN)), () -> {
            FeastBook x = Texts.told(TURN);
            change.of(x);
            cycleWide(x);
            x.undo();
            return cycleWide(x);
        });
    }

    /** What is told by hand counts at once, and once taken back it is as ahead of it. */
    private static void byHand() {
        foundAnew("rank", TURN.replace("feast 4 at 0", "feast 9 at 0"), x -> x.rank(1, 9));
        foundAnew("law", TURN.replace("5 on 0 3 move", "5 on 0 3 back"), x -> x.law(0, 1));
        foundAnew("put", TURN.replace("5 on 0 3", "5 on 1 0"), x -> x.put(0, 1, 0));
        foundAnew("put of a MOVING one", TURN.replace("4 at 0", "4 at -3"), x -> x.put(1, -1, -3));
        foundAnew("reach", TURN + ";reach 1", x -> x.reach(1));
    }

    public static void main(String[] args) {
        inPlaceOfTheOneBefore();
        byHand();
        CHECK.finish();
    }
}
