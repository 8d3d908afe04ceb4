import java.util.ArrayList;
import java.util.List;

/**
 * A call that throws, or that answers NONE or false because it does nothing, changes nothing else: two objects are
 * made the same way, one is given the refused calls as well, and then both must answer alike, to the last of what
 * they remember.
 */
public final class RefusedTest {
    private static final Check CHECK = new Check("RefusedTest");

    private interface Make {
        FeastBook one();
    }

    private interface Refused {
        Object by(FeastBook x);
    }

    private static final String TURN = "book 3 5 5 leap 4 1 moon 1 0 0 1;rest 3;fast 1;season 0 1 2;closed 4 4"
        + ";feast 5 on 0 3 move;feast 4 at 0 move;feast 2 on 1 0 join;feast 9 on 1 0 drop vigil 6 octave 3;feast 1 at 2 back";

    private static FeastBook changed() {
        FeastBook x = Texts.told(TURN);
        x.rank(0, 9);
        x.image();
        x.rank(1, 6);
        x.law(2, 3);
        x.put(4, -1, 3);
        x.put(0, 1, 2);
        x.reach(9);
        x.rank(0, 7);
        x.law(3, 2);
        x.put(3, 0, 1);
        x.feed(0x626f6f6b, 0x20332035, 0x2035206d, 0x6f6f6e20, 0x31203020);
        return x;
    }

    private static FeastBook withFault() {
        FeastBook x = Texts.told(TURN);
        Texts.feed(x, "book 3 5 5 moon 1 0 0 1;feast 0");
        try {
            x.book();
        } catch (IllegalArgumentException e) {
            x.reach(3);
        }
        for (int i = 0; i < 20; i++) {
            x.feed(0x20202020, 0x20202020, 0x20202020, 0x20202020, 0x20202020);
        }
        return x;
    }

    private static FeastBook withTape() {
        FeastBook x = new FeastBook();
        Texts.feed(x, "book 3 5 5 moon 1 0 0 1;feast 1 at 0 drop");
        return x;
    }

    private static String all(FeastBook x) {
        return new Seen().ask(() -> x.fault()) + allButFault(x);
    }

    /** What is told and what is asked of it, in some 350 calls; the last ones use it up. */
    private static String allButFault(FeastBook x) {
        Seen seen = new Seen();
        look(x, seen);
        for (int day = 0; day < 10; day++) {
            int d = day;
            seen.ask(() -> x.office(1, d, 2), () -> x.base(1, d, 1), () -> x.fast(1, d), () -> x.lesson(1, d),
                () -> x.joined(1, d), () -> x.day(1, d, 3));
        }
        seen.ask(() -> x.course(0), () -> x.sorts(), () -> x.leader());
        for (int i = 0; i < 9; i++) {
            seen.ask(() -> x.undo(), () -> x.count(5));
            for (int feast = 0; feast < 5; feast++) {
                int f = feast;
                seen.ask(() -> x.feast(f, 0), () -> x.feast(f, 2), () -> x.feast(f, 3), () -> x.feast(f, 4));
            }
        }
        seen.ask(() -> x.end(400), () -> x.end(42), () -> x.end(41));
        seen.ask(() -> x.feed(0x30203120, 0x20202020, 0x20202020, 0x20202020, 0x20202020));
        seen.ask(() -> x.book(), () -> x.fault(), () -> x.count(0), () -> x.back());
        look(x, seen);
        return seen.toString();
    }

    private static void look(FeastBook x, Seen seen) {
        for (int what = 0; what < 11; what++) {
            int w = what;
            seen.ask(() -> x.count(w), () -> x.year(1, w));
        }
        for (int feast = 0; feast < 5; feast++) {
            int f = feast;
            seen.ask(() -> x.order(f), () -> x.of(f, 0, 1), () -> x.fates(f, 0, false), () -> x.safe(f), () -> x.far(f));
        }
    }

    private static void nothingChanges(String state, Make make, String call, Refused refused) {
        CHECK.due(state + ", behind " + call, all(make.one()), () -> {
            FeastBook x = make.one();
            new Seen().ask(() -> refused.by(x));
            return all(x);
        });
    }

    private static final class Call {
        final String name;
        final Refused refused;

        Call(String name, Refused refused) {
            this.name = name;
            this.refused = refused;
        }
    }

    private static List<Call> calls() {
        List<Call> all = new ArrayList<>();
        all.add(new Call("year(10000, 0)", x -> x.year(10000, 0)));
        all.add(new Call("year(0, 11)", x -> x.year(0, 11)));
        all.add(new Call("day(0, 99, 0)", x -> x.day(0, 99, 0)));
        all.add(new Call("day(0, 0, 4)", x -> x.day(0, 0, 4)));
        all.add(new Call("office(0, -1, 0)", x -> x.office(0, -1, 0)));
        all.add(new Call("office(0, 0, 3)", x -> x.office(0, 0, 3)));
        all.add(new Call("base(-1, 0, 0)", x -> x.base(-1, 0, 0)));
        all.add(new Call("base(0, 0, -1)", x -> x.base(0, 0, -1)));
        all.add(new Call("fast(0, 99)", x -> x.fast(0, 99)));
        all.add(new Call("lesson(10000, 0)", x -> x.lesson(10000, 0)));
        all.add(new Call("joined(0, -1)", x -> x.joined(0, -1)));
        all.add(new Call("feast(12, 0)", x -> x.feast(12, 0)));
        all.add(new Call("feast(0, 7)", x -> x.feast(0, 7)));
        all.add(new Call("of(5, 0, 0)", x -> x.of(5, 0, 0)));
        all.add(new Call("of(0, 0, 5)", x -> x.of(0, 0, 5)));
        all.add(new Call("rank(5, 3)", x -> x.rank(5, 3)));
        all.add(new Call("rank(0, 0)", x -> x.rank(0, 0)));
        all.add(new Call("rank(0, 10)", x -> x.rank(0, 10)));
        all.add(new Call("law(-1, 0)", x -> x.law(-1, 0)));
        all.add(new Call("law(0, -1)", x -> x.law(0, -1)));
        all.add(new Call("law(0, 4)", x -> x.law(0, 4)));
        all.add(new Call("put(5, 0, 0)", x -> x.put(5, 0, 0)));
        all.add(new Call("put(0, 2, 0)", x -> x.put(0, 2, 0)));
        all.add(new Call("put(0, 1, 5)", x -> x.put(0, 1, 5)));
        all.add(new Call("put(0, -1, 0)", x -> x.put(0, -1, 0)));
        all.add(new Call("put(1, 0, 0)", x -> x.put(1, 0, 0)));
        all.add(new Call("put(1, -1, 100)", x -> x.put(1, -1, 100)));
        all.add(new Call("put(1, -1, -100)", x -> x.put(1, -1, -100)));
        all.add(new Call("reach(0)", x -> x.reach(0)));
        all.add(new Call("reach(61)", x -> x.reach(61)));
        all.add(new Call("fates(0, 6, true)", x -> x.fates(0, 6, true)));
        all.add(new Call("fates(5, 0, true)", x -> x.fates(5, 0, true)));
        all.add(new Call("far(5)", x -> x.far(5)));
        all.add(new Call("span(5, true)", x -> x.span(5, true)));
        all.add(new Call("meets(5)", x -> x.meets(5)));
        all.add(new Call("beats(1, 1)", x -> x.beats(1, 1)));
        all.add(new Call("beats(1, 5)", x -> x.beats(1, 5)));
        all.add(new Call("safe(5)", x -> x.safe(5)));
        all.add(new Call("next(0, 3, 0)", x -> x.next(0, 3, 0)));
        all.add(new Call("next(5, 0, 0)", x -> x.next(5, 0, 0)));
        all.add(new Call("alike(0, 10000)", x -> x.alike(0, 10000)));
        all.add(new Call("yields(2, 2)", x -> x.yields(2, 2)));
        all.add(new Call("yields(5, 2)", x -> x.yields(5, 2)));
        all.add(new Call("course(4)", x -> x.course(4)));
        all.add(new Call("heaviest(0, 61, true)", x -> x.heaviest(0, 61, true)));
        all.add(new Call("heaviest(-1, 1, true)", x -> x.heaviest(-1, 1, true)));
        all.add(new Call("interval(5, true)", x -> x.interval(5, true)));
        all.add(new Call("better(0, 6, 0)", x -> x.better(0, 6, 0)));
        all.add(new Call("better(0, 0, 2)", x -> x.better(0, 0, 2)));
        all.add(new Call("better(5, 0, 0)", x -> x.better(5, 0, 0)));
        all.add(new Call("rival(5)", x -> x.rival(5)));
        all.add(new Call("lull(61)", x -> x.lull(61)));
        all.add(new Call("tally(0, 6)", x -> x.tally(0, 6)));
        all.add(new Call("tally(10000, 0)", x -> x.tally(10000, 0)));
        all.add(new Call("order(12)", x -> x.order(12)));
        all.add(new Call("count(11)", x -> x.count(11)));
        all.add(new Call("paschs(-1)", x -> x.paschs(-1)));
        all.add(new Call("end(-1)", x -> x.end(-1)));
        all.add(new Call("end(401)", x -> x.end(401)));
        // Calls that only ask change nothing either, whatever they try out.
        all.add(new Call("better(0, 5, 0)", x -> x.better(0, 5, 0)));
        all.add(new Call("better(1, 5, 1)", x -> x.better(1, 5, 1)));
        all.add(new Call("safe(4)", x -> x.safe(4)));
        all.add(new Call("meets(0)", x -> x.meets(0)));
        all.add(new Call("lull(1)", x -> x.lull(1)));
        all.add(new Call("year(9999, 10)", x -> x.year(9999, 10)));
        all.add(new Call("interval(0, true)", x -> x.interval(0, true)));
        return all;
    }

    private static final class State {
        final String name;
        final Make make;

        State(String name, Make make) {
            this.name = name;
            this.make = make;
        }
    }

    private static List<State> states() {
        List<State> all = new ArrayList<>();
        all.add(new State("new", () -> new FeastBook()));
        all.add(new State("a text on the TAPE", () -> withTape()));
        all.add(new State("a BOOK", () -> Texts.told(TURN)));
        all.add(new State("changed eight times and more", () -> changed()));
        all.add(new State("behind a wrong text, TAPE full", () -> withFault()));
        return all;
    }

    private static void onItsOwn() {
        nothingChanges("a BOOK without an IMAGE", () -> Texts.told(TURN), "back()", x -> x.back());
        nothingChanges("new", () -> new FeastBook(), "back()", x -> x.back());
        nothingChanges("a BOOK, nothing remembered", () -> Texts.told(TURN), "undo()", x -> x.undo());
        nothingChanges("new", () -> new FeastBook(), "undo()", x -> x.undo());
        nothingChanges("new", () -> new FeastBook(), "reach(1)", x -> x.reach(1));
        nothingChanges("a full TAPE", () -> withFault(), "feed", x -> x.feed(0x78787878, 1, 2, 3, 4));
        nothingChanges("a text on the TAPE", () -> withTape(), "end beyond", x -> x.end(42));
        nothingChanges("a text on the TAPE", () -> withTape(), "end of all", x -> x.end(41));
    }

    /** A refused text uses the TAPE up and sets fault(); all else stays, also the IMAGE and what is remembered. */
    private static void wrongTexts() {
        String[] wrong = {"", "x", "book 3 5 5 moon 1 0 0 1;feast 1 at 0 drop;",
            "book 9 31 31 31 moon 19 9 9 9;reach 3;rest 9;lift 9;fast 8;season 0 9 9;closed 0 9;feast 9 at 9 drop;?"};
        for (String text : wrong) {
            FeastBook same = changed();
            same.end(0);
            CHECK.due("behind the wrong text '" + text + "'", allButFault(same), () -> {
                FeastBook x = changed();
                Texts.feed(x, text);
                new Seen().ask(() -> x.book());
                return allButFault(x);
            });
        }
    }

    public static void main(String[] args) {
        for (State state : states()) {
            for (Call call : calls()) {
                nothingChanges(state.name, state.make, call.name, call.refused);
            }
        }
        onItsOwn();
        wrongTexts();
        CHECK.finish();
    }
}
