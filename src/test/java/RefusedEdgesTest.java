import java.util.function.Supplier;
import java.util.function.ToIntFunction;

/** What 'Terms' says of all answers: the first that fits; what is refused changes nothing; and a question changes nothing. */
public final class RefusedEdgesTest {
    public static void main(String[] args) {
        all();
        Checks.finish();
    }

    static void all() {
        answers();
        firstThatFits();
        firstThatFitsOfSheets();
        refusedBad();
        refusedByMinutes();
        refusedWhenUp();
        refusedWhenFull();
        refusedSheets();
        refusedTexts();
        questions();
    }

    // ---- objects on which nothing is as at first

    private static UpRiver laden() {
        UpRiver x = ladenWithoutFault();
        x.end(0);
        Checks.tell(x, "dark 0;");
        Checks.feedText(x, "lee 0;lee 1;");
        return x;
    }

    private static UpRiver ladenWithoutFault() {
        UpRiver x = Checks.river("reaches 3;beat 7;draught 5;point 3;shift 1;turn 3;dark 200;bank 2 1 7;deep 0 8 3;eddy 0 3;lee 1;wind 0 2;"
                + "tide 12 11 10 9 8 7 6 7 8 9 10 11;high 0 1 2 3 2 1 0 0 0 0 0 0;");
        x.sail(2);
        x.turn();
        x.logged(0, 1);
        x.logged(1, 9);
        x.swing(2);
        x.swing(1);
        x.swing(1);
        x.keep(0);
        x.sail(1);
        x.anchor(5);
        x.logged(2, 30);
        x.swing(0);
        x.sheet(0, 0, 4);
        x.lay(0, 0, 2);
        x.lay(0, 1, 77);
        x.lay(0, 2, 3);
        x.lay(0, 3, 88);
        x.sheet(1, 1, 5);
        x.lay(1, 1, 1);
        x.lay(1, 2, 299);
        x.sheet(2, 2, 2);
        x.read(3, 0, 0, 1);
        Checks.feedText(x, "lee 0;lee 1;");
        return x;
    }

    private static UpRiver ladenAt(int fine, int t) {
        UpRiver x = laden();
        x.set(fine, 4, 0, t);
        return x;
    }

    private static UpRiver ladenUp() {
        UpRiver x = ladenAt(23, 0);
        x.sail(1);
        x.anchor(299);
        Checks.due("she is up", x.now(5), 1);
        return x;
    }

    private static UpRiver ladenFull() {
        UpRiver x = laden();
        for (int i = x.count(1); i < 40; i++) {
            x.swing(i % 3);
        }
        for (int i = x.count(5); i < 393; i += 8) {
            x.feed(0x2020202020202020L);
        }
        return x;
    }

    /** A call that is refused leaves the object as one on which it was never tried. */
    private static void refused(Supplier<UpRiver> made, int want, String call, ToIntFunction<UpRiver> tried) {
        UpRiver x = made.get();
        Checks.due(call, tried.applyAsInt(x), want);
        Checks.due("behind " + call, Checks.seen(x), Checks.seen(made.get()));
    }

    private static void bad(String call, ToIntFunction<UpRiver> tried) {
        refused(RefusedEdgesTest::laden, Checks.BAD, call, tried);
    }

    // ---- the first that fits

    private static void answers() {
        Checks.sentence("T.answers", "Answers: BAD -1 (a number is not as told, there is no such REACH, LANE, IMAGE, SHEET), STATE -2 (as told), FULL -3, NONE -4 (there is none)");
        Checks.due("BAD", UpRiver.BAD, -1);
        Checks.due("STATE", UpRiver.STATE, -2);
        Checks.due("FULL", UpRiver.FULL, -3);
        Checks.due("NONE", UpRiver.NONE, -4);
        UpRiver x = Checks.river("reaches 2;");
        Checks.due("no such number", x.sail(0), -1);
        Checks.due("no such reach", x.reach(2, 0), -1);
        Checks.due("no such lane", x.only(0, 9), -1);
        Checks.due("no such image", x.keep(2), -1);
        Checks.due("no such sheet", x.sheet(4, 0, 0), -1);
        x.set(15, 4, 0, 299);
        x.sail(1);
        Checks.due("up", x.sail(1), -2);
        Checks.due("behind 300", x.anchor(1), -3);
        Checks.due("none judged", x.judge(0), -4);
    }

    private static void firstThatFits() {
        Checks.sentence("T.first", "NONE -4 (there is none), the first that fits");
        UpRiver up = Checks.river("reaches 2;");
        up.set(15, 4, 0, 299);
        up.sail(1);
        Checks.due("sail: no such number, though up", up.sail(100), Checks.BAD);
        Checks.due("sail: up, though behind 300", up.sail(99), Checks.STATE);
        Checks.due("turn: up, though behind 300", up.turn(), Checks.STATE);
        Checks.due("anchor: no such number, though behind 300", up.anchor(301), Checks.BAD);
        Checks.due("anchor: behind 300", up.anchor(1), Checks.FULL);
        Checks.due("soonest: up", up.soonest(), Checks.STATE);
        Checks.due("only: no such lane, though up", up.only(0, 9), Checks.BAD);
        Checks.due("only: up, though not in these", up.only(0, 0), Checks.STATE);
        Checks.due("first: up", up.first(), Checks.STATE);
        Checks.due("skipper: no such margin, though up", up.skipper(21, 0, 0), Checks.BAD);
        Checks.due("skipper: up", up.skipper(20, 0, 0), Checks.STATE);
        Checks.due("best: no such eyes, though up", up.best(2, 0), Checks.BAD);
        Checks.due("best: up", up.best(0, 0), Checks.STATE);
        Checks.due("loses: no such margin, though up", up.loses(-1, 0), Checks.BAD);
        Checks.due("loses: up", up.loses(20, 0), Checks.STATE);
        Checks.due("barge: no such minute, though up", up.barge(0, 301, 0, 0, 0), Checks.BAD);
        Checks.due("barge: up, though it meets none", up.barge(0, 0, 0, 0, 0), Checks.STATE);
        UpRiver x = Checks.river("deep 0 0 0;");
        Checks.due("start: no such what, though none is", x.start(3), Checks.BAD);
        Checks.due("days: no such what, though none is", x.days(1, 0, 2), Checks.BAD);
        Checks.due("from: no such minute, though none is", x.from(301), Checks.BAD);
        Checks.due("judge: no such what, though none is", x.judge(3), Checks.BAD);
        Checks.due("lost: no such what, though none is", x.lost(2), -1000);
        Checks.due("back: no such image, though none is", x.back(2), Checks.BAD);
        for (int i = 0; i < 40; i++) {
            x.swing(0);
        }
        Checks.due("swing: no such wind, though full", x.swing(-1), Checks.BAD);
    }

    private static void firstThatFitsOfSheets() {
        Checks.sentence("T.first.sheets", "there is no such REACH, LANE, IMAGE, SHEET), STATE -2 (as told), FULL -3, NONE -4 (there is none), the first that fits");
        UpRiver x = new UpRiver();
        Checks.due("sheet: no such sheet, though below 0", x.sheet(4, 0, -1), Checks.BAD);
        Checks.due("sheet: no such lane, though below 0", x.sheet(0, 3, -1), Checks.BAD);
        Checks.due("lay: no such sheet, though no such cell", x.lay(4, -1, 0), Checks.BAD);
        Checks.due("lay: nothing, though no such cell", x.lay(0, -1, 0), -11);
        Checks.due("read: no such lane, though nothing", x.read(0, 3, 0, 1), Checks.BAD);
        Checks.due("read: no such number, though nothing", x.read(0, 0, 0, 13), Checks.BAD);
    }

    // ---- what is refused changes nothing

    private static void refusedBad() {
        Checks.sentence("T.refused", "what is refused changes nothing (but THE TAPE, as told)");
        bad("end(-1)", x -> x.end(-1));
        bad("end(13)", x -> x.end(13));
        bad("rule(7)", x -> x.rule(7));
        bad("reach(3, 0)", x -> x.reach(3, 0));
        refused(RefusedEdgesTest::laden, -1000, "flow(2, 0, 0)", x -> x.flow(2, 0, 0));
        bad("afloat(0, 0, 301, 0)", x -> x.afloat(0, 0, 301, 0));
        bad("sail(0)", x -> x.sail(0));
        bad("sail(100)", x -> x.sail(100));
        bad("anchor(0)", x -> x.anchor(0));
        bad("anchor(301)", x -> x.anchor(301));
        bad("now(8)", x -> x.now(8));
        bad("set(24, 4, 0, 0)", x -> x.set(24, 4, 0, 0));
        bad("set(-1, 4, 0, 0)", x -> x.set(-1, 4, 0, 0));
        bad("set(16, 0, 0, 0)", x -> x.set(16, 0, 0, 0));
        bad("set(0, 4, 2, 0)", x -> x.set(0, 4, 2, 0));
        bad("set(0, 4, 0, 301)", x -> x.set(0, 4, 0, 301));
        bad("logged(2, 40): not above", x -> x.logged(2, 40));
        bad("logged(3, 30): not later", x -> x.logged(3, 30));
        bad("logged(4, 40)", x -> x.logged(4, 40));
        bad("logged(3, 301)", x -> x.logged(3, 301));
        bad("swing(3)", x -> x.swing(3));
        bad("keep(2)", x -> x.keep(2));
        bad("keep(-1)", x -> x.keep(-1));
        bad("back(2)", x -> x.back(2));
        refused(RefusedEdgesTest::laden, Checks.STATE, "back(1)", x -> x.back(1));
    }

    private static void refusedByMinutes() {
        Checks.sentence("T.refused.minutes", "FULL: n MINUTES more would be above 300.");
        refused(() -> ladenAt(9, 202), Checks.FULL, "sail(99)", x -> x.sail(99));
        refused(() -> ladenAt(23, 299), Checks.FULL, "sail(2)", x -> x.sail(2));
        refused(() -> ladenAt(9, 300), Checks.FULL, "sail(1)", x -> x.sail(1));
        refused(() -> ladenAt(9, 298), Checks.FULL, "turn()", x -> x.turn());
        refused(() -> ladenAt(9, 300), Checks.FULL, "turn()", x -> x.turn());
        refused(() -> ladenAt(9, 1), Checks.FULL, "anchor(300)", x -> x.anchor(300));
        refused(() -> ladenAt(9, 300), Checks.FULL, "anchor(1)", x -> x.anchor(1));
    }

    private static void refusedWhenUp() {
        Checks.sentence("T.refused.up", "STATE: she is UP");
        refused(RefusedEdgesTest::ladenUp, Checks.STATE, "sail(1)", x -> x.sail(1));
        refused(RefusedEdgesTest::ladenUp, Checks.STATE, "turn()", x -> x.turn());
        refused(RefusedEdgesTest::ladenUp, Checks.STATE, "soonest()", x -> x.soonest());
        refused(RefusedEdgesTest::ladenUp, Checks.STATE, "only(0, 8)", x -> x.only(0, 8));
        refused(RefusedEdgesTest::ladenUp, Checks.STATE, "first()", x -> x.first());
        refused(RefusedEdgesTest::ladenUp, Checks.STATE, "skipper(0, 0, 0)", x -> x.skipper(0, 0, 0));
        refused(RefusedEdgesTest::ladenUp, Checks.STATE, "best(0, 0)", x -> x.best(0, 0));
        refused(RefusedEdgesTest::ladenUp, Checks.STATE, "loses(0, 0)", x -> x.loses(0, 0));
        refused(RefusedEdgesTest::ladenUp, Checks.STATE, "barge(4, 0, 0, 0, 0)", x -> x.barge(4, 0, 0, 0, 0));
    }

    private static void refusedWhenFull() {
        Checks.sentence("T.refused.full", "BAD; FULL: 40.");
        refused(RefusedEdgesTest::ladenFull, Checks.FULL, "swing(1)", x -> x.swing(1));
        Checks.sentence("T.refused.tape", "FULL: more than 400.");
        refused(RefusedEdgesTest::ladenFull, Checks.FULL, "feed(0)", x -> x.feed(0L));
    }

    private static void refusedSheets() {
        Checks.sentence("T.refused.sheets", "BAD: also n above 40; -14 (SIZE): n below 0.");
        bad("sheet(4, 0, 0)", x -> x.sheet(4, 0, 0));
        bad("sheet(0, 3, 0)", x -> x.sheet(0, 3, 0));
        bad("sheet(0, 0, 41)", x -> x.sheet(0, 0, 41));
        refused(RefusedEdgesTest::laden, -14, "sheet(0, 1, -1)", x -> x.sheet(0, 1, -1));
        Checks.sentence("T.refused.cells", "BAD: k; -10 less the FAULT: NULL, INDEX.");
        bad("lay(4, 0, 1)", x -> x.lay(4, 0, 1));
        refused(RefusedEdgesTest::laden, -11, "lay(3, 0, 1)", x -> x.lay(3, 0, 1));
        refused(RefusedEdgesTest::laden, -12, "lay(0, 4, 1)", x -> x.lay(0, 4, 1));
        refused(RefusedEdgesTest::laden, -12, "lay(0, -1, 1)", x -> x.lay(0, -1, 1));
        Checks.sentence("T.refused.read", "is refused by logged() (in whichever way): then none came; the first met.");
        bad("read(4, 0, 0, 1)", x -> x.read(4, 0, 0, 1));
        bad("read(0, 3, 0, 1)", x -> x.read(0, 3, 0, 1));
        bad("read(0, 0, 0, 13)", x -> x.read(0, 0, 0, 13));
        refused(RefusedEdgesTest::laden, -20, "read(0, 0, 0, 2)", x -> x.read(0, 0, 0, 2));
        refused(() -> {
            UpRiver x = laden();
            x.lay(0, 0, 3);
            return x;
        }, -21, "read(0, 0, 0, 2)", x -> x.read(0, 0, 0, 2));
    }

    private static void refusedTexts() {
        Checks.sentence("T.refused.text", "what is refused changes nothing (but THE TAPE, as told)");
        String[] texts = {"dark 0;", "reaches 8;beat 5;lee 0;lee 9;", "bank 0 3 4;deep 0 3 0;dark 999;"};
        for (String text : texts) {
            UpRiver x = ladenWithoutFault();
            x.end(0);
            Checks.due("text() of '" + text + "'", Checks.tell(x, text) < -9 ? 1 : 0, 1);
            UpRiver twin = ladenWithoutFault();
            twin.end(0);
            Checks.due("behind text() of '" + text + "'", Checks.seenButFault(x), Checks.seenButFault(twin));
        }
    }

    // ---- a question changes nothing

    private static void question(String call, ToIntFunction<UpRiver> asked) {
        UpRiver x = laden();
        int answer = asked.applyAsInt(x);
        Checks.due(call + " is answered, " + answer, answer == Checks.BAD || answer == -1000 ? 0 : 1, 1);
        Checks.due(call + " again", asked.applyAsInt(x), answer);
        Checks.due("behind " + call, Checks.seen(x), Checks.seen(laden()));
    }

    private static void questions() {
        Checks.sentence("N.question", "Nothing is promised beyond the answers and state changes described above");
        question("fault()", x -> x.fault());
        question("rule(3)", x -> x.rule(3));
        question("reach(0, 4)", x -> x.reach(0, 4));
        question("flow(0, 4, 9)", x -> x.flow(0, 4, 9));
        question("afloat(0, 8, 0, 0)", x -> x.afloat(0, 8, 0, 0));
        question("now(1)", x -> x.now(1));
        question("soonest()", x -> x.soonest());
        question("only(0, 4)", x -> x.only(0, 4));
        question("first()", x -> x.first());
        question("from(40)", x -> x.from(40));
        question("start(1)", x -> x.start(1));
        question("days(14, 33, 0)", x -> x.days(14, 33, 0));
        question("skipper(1, 1, 0)", x -> x.skipper(1, 1, 0));
        question("best(1, 0)", x -> x.best(1, 0));
        question("loses(0, 0)", x -> x.loses(0, 0));
        question("narrow(-1)", x -> x.narrow(-1));
        question("lead(5, 1, 2, 3, 1)", x -> x.lead(5, 1, 2, 3, 1));
        question("near(1, 2, 3, 1, 6)", x -> x.near(1, 2, 3, 1, 6));
        question("lost(0)", x -> x.lost(0));
        question("judged(2)", x -> x.judged(2));
        question("judge(0)", x -> x.judge(0));
        question("barge(3, 20, 0, 0, 0)", x -> x.barge(3, 20, 0, 0, 0));
        question("torn()", x -> x.torn());
        question("count(2)", x -> x.count(2));
    }
}
