/** The edges of the soonest way and of a skipper: what 'Terms' says of them, promises 15 to 23. */
public final class WayEdgesTest {
    public static void main(String[] args) {
        all();
        Checks.finish();
    }

    static void all() {
        soonestByAny();
        soonestByDrift();
        soonest();
        only();
        onlyAlone();
        onlyRefused();
        first();
        firstRefused();
        from();
        start();
        startRefused();
        days();
        daysByPhases();
        daysRefused();
        skipperWaits();
        skipperTurns();
        skipperByMargin();
        skipperWithEyes();
        skipperCanNot();
        skipper();
        best();
        bestRefused();
        loses();
    }

    /** When, by how many turns, with how many minutes sailed. */
    private static String skipped(UpRiver x, int m, int e) {
        return x.skipper(m, e, 0) + " " + x.skipper(m, e, 1) + " " + x.skipper(m, e, 2);
    }

    private static UpRiver upAt(int t) {
        UpRiver x = Checks.river("reaches 2;");
        x.set(15, 4, 0, t - 1);
        x.sail(1);
        return x;
    }

    // ---- the soonest way

    private static void soonestByAny() {
        Checks.sentence("T2.soonest", "SOONEST: the least MINUTE in which she can be UP by any of these.");
        UpRiver x = Checks.river("reaches 2;");
        Checks.due("she sails", x.soonest(), 4);
        x.set(0, 8, 0, 0);
        Checks.due("she turns, then sails", x.soonest(), 6);
        x.set(0, 7, 0, 0);
        Checks.due("she sails, turns, sails", x.soonest(), 6);
        x = Checks.river("reaches 2;beat 5;draught 20;deep 0 0 19;" + Checks.phases("high", 0, 0, 1));
        Checks.due("she waits for water, then sails", x.soonest(), 9);
        x = Checks.river("reaches 2;point 1;beat 20;" + Checks.phases("tide", 9, 0, 0, 18));
        x.set(0, 4, 0, 0);
        Checks.due("she waits for the tide: ten a minute", x.soonest(), 42);
        x = Checks.river("reaches 2;point 1;turn 9;bank 0 0 8;deep 0 3 0;deep 0 5 0;deep 1 3 0;deep 1 5 0;" + Checks.twelve("tide", 11));
        x.set(0, 4, 0, 0);
        Checks.due("she turns, and drifts up", x.soonest(), 9);
        x = Checks.river("reaches 2;turn 2;deep 0 3 0;deep 0 5 0;" + Checks.twelve("tide", 11));
        x.set(0, 4, 0, 0);
        Checks.due("she turns, drifts past the shoal, and sails", x.soonest(), 4);
        x.set(0, 4, 0, 10);
        Checks.due("later, too", x.soonest(), 14);
    }

    private static void soonestByDrift() {
        Checks.sentence("T2.soonest.drift", "SOONEST: the least MINUTE in which she can be UP by any of these.");
        for (int turn = 1; turn <= 9; turn++) {
            UpRiver x = Checks.river("reaches 2;turn " + turn + ";");
            x.set(0, 8, 0, 3);
            Checks.due("a turn of " + turn + " at the high bank", x.soonest(), 3 + turn + 4);
            x.set(0, 0, 1, 3);
            Checks.due("a turn of " + turn + " at the low bank", x.soonest(), 3 + turn + 4);
        }
        for (int against = 5; against <= 9; against++) {
            UpRiver x = Checks.river("reaches 2;eddy 0 5;eddy 1 5;eddy 1 6;" + Checks.twelve("tide", 9 - against));
            x.set(8 + against - 4, 4, 0, 0);
            Checks.due("back to 8, into an eddy, up", x.soonest(), 2);
            for (int fine = 0; fine <= against - 4; fine++) {
                x.set(fine, 4, 0, 0);
                Checks.due("back to 0, which is the least, into an eddy, into another, up", x.soonest(), 3);
            }
        }
        backIsNotToTheLeast();
        UpRiver x = Checks.river("reaches 8;point 1;");
        x.set(63, 4, 0, 0);
        Checks.due("the last eighth of 64", x.soonest(), 1);
        x.set(62, 4, 0, 0);
        Checks.due("the last but one", x.soonest(), 2);
        x = Checks.river("reaches 8;turn 9;" + Checks.twelve("tide", 18));
        x.set(0, 4, 0, 0);
        Checks.due("81 by a turn; by sails she is at the bank with 47 in four minutes", x.soonest(), 9);
        x = Checks.river("reaches 2;turn 8;beat 8;deep 0 7 0;deep 1 7 0;" + Checks.phases("tide", 9, 1));
        x.set(0, 6, 0, 0);
        Checks.due("to turn in the worst of the stream, 64 back", x.soonest(), 12);
    }

    /** In reach 0 she would be up in a minute; from 12, less 1 a minute, she comes there by two turns at the soonest. */
    private static void backIsNotToTheLeast() {
        UpRiver x = Checks.river("reaches 2;shift 8;wind 0 2;eddy 0 5;" + Checks.twelve("tide", 4));
        x.set(0, 5, 0, 0);
        Checks.due("from 0 in the eddy", x.soonest(), 1);
        x.set(12, 4, 0, 0);
        Checks.due("12 less 10, less 10, and 7, and 17", x.soonest(), 6);
    }

    private static void soonest() {
        Checks.sentence("15.from", "SOONEST from where and when she is.");
        UpRiver x = new UpRiver();
        Checks.due("from the start", x.soonest(), 14);
        x.sail(3);
        Checks.due("on the way", x.soonest(), 14);
        x.anchor(6);
        Checks.due("later", x.soonest(), 20);
        x.set(47, 4, 0, 299);
        Checks.due("in 300", x.soonest(), 300);
        Checks.due("she stays where she is", Checks.boat(x), "299 47 4 0 1 0 0 0");
        Checks.sentence("15.refused", "STATE: she is UP; NONE.");
        x.set(43, 4, 0, 299);
        Checks.due("not in 301", x.soonest(), Checks.NONE);
        x.set(47, 4, 0, 300);
        Checks.due("in 300 already", x.soonest(), Checks.NONE);
        Checks.due("aground for ever", Checks.river("deep 0 0 0;").soonest(), Checks.NONE);
        Checks.due("walled in", Checks.river("bank 0 0 0;bank 1 5 8;point 1;turn 1;").soonest(), Checks.NONE);
        Checks.due("up", upAt(5).soonest(), Checks.STATE);
        Checks.due("up in 300", upAt(300).soonest(), Checks.STATE);
    }

    private static void only() {
        Checks.sentence("16.lanes", "Likewise, LANES from a to b alone (where they are OPEN; she is in one of these now, else NONE).");
        UpRiver x = Checks.river("reaches 2;");
        x.set(0, 3, 0, 0);
        int[][] want = {{0, 8, 4}, {3, 8, 4}, {3, 6, 4}, {3, 5, 6}, {3, 4, 8}, {3, 3, Checks.NONE}, {1, 3, 8}, {2, 4, 6}, {0, 3, 6},
            {4, 8, Checks.NONE}, {0, 2, Checks.NONE}, {4, 4, Checks.NONE}, {2, 2, Checks.NONE}};
        for (int[] w : want) {
            Checks.due("only(" + w[0] + ", " + w[1] + ")", x.only(w[0], w[1]), w[2]);
        }
        x = Checks.river("reaches 2;" + Checks.twelve("tide", 18));
        Checks.due("one lane, by a turn and a sail that brings her up", x.only(0, 0), 3);
        Checks.due("all", x.only(0, 8), 2);
        x = Checks.river("reaches 2;bank 1 0 1;");
        Checks.due("where they are open", x.only(0, 8), 8);
        Checks.due("and no more of them", x.only(0, 1), 8);
        x = Checks.river("reaches 2;");
        x.set(0, 0, 0, 296);
        Checks.due("in 300", x.only(0, 3), 300);
        Checks.due("not by 300", x.only(0, 2), Checks.NONE);
    }

    /** The lanes that one question is kept to are no matter of the next one. */
    private static void onlyAlone() {
        Checks.sentence("16.alone", "LANES from a to b alone");
        UpRiver x = Checks.river("reaches 2;bank 0 0 3;dark 4;");
        x.logged(0, 0);
        x.logged(1, 9);
        int[][] pairs = {{8, 8}, {0, 0}, {3, 4}};
        for (int[] p : pairs) {
            Checks.due("asked", x.only(p[0], p[1]), Checks.NONE);
            Checks.due("days", x.days(1, 0, 0), 1);
            x.only(p[0], p[1]);
            Checks.due("lost", x.lost(0), 7);
            x.only(p[0], p[1]);
            Checks.due("from", x.from(3), 7);
            x.only(p[0], p[1]);
            Checks.due("soonest", x.soonest(), 4);
        }
    }

    private static void onlyRefused() {
        Checks.sentence("16.bad", "(where they are OPEN; she is in one of these now, else NONE). BAD.");
        UpRiver x = Checks.river("reaches 2;");
        Checks.allAre(Checks.BAD, "a", a -> x.only(a, 8), -1, 9, Checks.LEAST, Checks.MOST);
        Checks.allAre(Checks.BAD, "b", b -> x.only(0, b), -1, 9, Checks.LEAST, Checks.MOST);
        Checks.due("no lane from 5 to 4", x.only(5, 4), Checks.BAD);
        Checks.sentence("16.state", "Likewise, LANES from a to b alone");
        UpRiver up = upAt(9);
        Checks.due("up", up.only(0, 8), Checks.STATE);
        Checks.due("up, in another lane", up.only(8, 8), Checks.STATE);
        Checks.due("up, no such lane", up.only(0, 9), Checks.BAD);
    }

    private static void first() {
        Checks.sentence("17.first", "The first thing to do on a way that is SOONEST: 0 she SAILS, 1 TURNS, 2 WAITS; of several the first.");
        UpRiver x = Checks.river("reaches 2;");
        Checks.due("nothing but to sail", x.first(), 0);
        x.set(12, 0, 0, 0);
        Checks.due("up by the first minute", x.first(), 0);
        x.set(0, 8, 0, 0);
        Checks.due("nothing but to turn", x.first(), 1);
        x.set(0, 7, 0, 0);
        Checks.due("to sail or to turn first is the same", x.first(), 0);
        x = Checks.river("reaches 2;turn 2;" + Checks.twelve("tide", 17));
        x.set(0, 4, 0, 0);
        Checks.due("up by a turn or by sails in two minutes", x.first(), 0);
        x = Checks.river("reaches 2;turn 2;deep 0 5 0;deep 1 5 0;" + Checks.twelve("tide", 17));
        x.set(0, 4, 0, 0);
        Checks.due("up by a turn", x.first(), 1);
        x = Checks.river("reaches 2;wind 0 0;");
        x.set(0, 4, 0, 0);
        Checks.due("she can sail, but to turn into the better wind is sooner", x.first(), 1);
        x = Checks.river("reaches 2;beat 5;" + Checks.phases("tide", 9, 0));
        x.set(12, 4, 0, 3);
        Checks.due("she can sail and turn, but to wait for the tide's end is sooner", x.first(), 2);
        x = Checks.river("reaches 2;beat 5;draught 20;bank 0 0 1;deep 0 1 15;" + Checks.phases("high", 0, 5));
        x.set(0, 0, 0, 55);
        Checks.due("to turn twice or to wait is the same", x.first(), 1);
        x.set(0, 0, 0, 56);
        Checks.due("to turn twice would be too late", x.first(), 2);
        x.set(0, 0, 0, 58);
        Checks.due("nothing but to wait", x.first(), 2);
        x.set(0, 0, 0, 59);
        Checks.due("now she sails", x.first(), 0);
        x.set(0, 1, 0, 10);
        Checks.due("aground she waits", x.first(), 2);
        x = Checks.river("reaches 2;point 1;beat 20;" + Checks.phases("tide", 9, 0, 0, 18));
        x.set(0, 4, 0, 0);
        Checks.due("to sail, to turn or to wait is the same", x.first(), 0);
        Checks.due("a question alone", Checks.boat(x), "0 0 4 0 1 0 0 0");
    }

    private static void firstRefused() {
        Checks.sentence("17.refused", "STATE; NONE likewise.");
        Checks.due("up", upAt(9).first(), Checks.STATE);
        Checks.due("up in 300", upAt(300).first(), Checks.STATE);
        UpRiver x = Checks.river("reaches 2;");
        x.set(12, 4, 0, 299);
        Checks.due("in 300", x.first(), 0);
        x.set(11, 4, 0, 299);
        Checks.due("not by 300", x.first(), Checks.NONE);
        x.set(15, 4, 0, 300);
        Checks.due("in 300 already", x.first(), Checks.NONE);
    }

    // ---- starts

    private static void from() {
        Checks.sentence("18.from", "The MINUTE in which a start (as at the start, in MINUTE t) is UP at the SOONEST.");
        UpRiver x = Checks.river("reaches 2;point 8;bank 0 2 8;");
        x.set(15, 8, 1, 200);
        Checks.due("from 0", x.from(0), 2);
        Checks.due("from 298", x.from(298), 300);
        x.sail(1);
        Checks.due("when she is up, too", x.from(7), 9);
        Checks.due("the low lane, board 0: a turn first", Checks.river("reaches 2;point 8;bank 0 8 8;").from(0), 4);
        x = Checks.river("reaches 2;beat 5;draught 20;deep 0 0 19;" + Checks.phases("high", 0, 0, 1));
        Checks.due("with waiting", x.from(0), 9);
        Checks.due("with waiting", x.from(10), 69);
        Checks.sentence("18.refused", "(as at the start, in MINUTE t) is UP at the SOONEST. BAD; NONE.");
        Checks.allAre(Checks.BAD, "from", x::from, -1, 301, Checks.LEAST, Checks.MOST);
        x = Checks.river("reaches 2;point 8;");
        Checks.due("from 299", x.from(299), Checks.NONE);
        Checks.due("from 300", x.from(300), Checks.NONE);
        Checks.due("aground", Checks.river("deep 0 0 0;").from(0), Checks.NONE);
    }

    /** Four minutes from 0 on; three from 18, two from 20 on, when the stream runs up for twenty minutes. */
    private static void start() {
        String text = "reaches 2;beat 20;" + Checks.phases("tide", 9, 9, 18);
        Checks.sentence("19.latest", "The latest MINUTE of a start that is UP by dark (what 0)");
        int[][] latest = {{300, 296}, {23, 21}, {22, 20}, {21, 18}, {20, 16}, {5, 1}, {4, 0}, {3, Checks.NONE}, {1, Checks.NONE}};
        for (int[] w : latest) {
            Checks.due("dark in " + w[0], Checks.river(text + "dark " + w[0] + ";").start(0), w[1]);
        }
        Checks.sentence("19.fewest", "the one of those that is UP by dark that takes the fewest MINUTES, of several the first (1), these (2)");
        int[][] fewest = {{300, 20, 2}, {23, 20, 2}, {22, 20, 2}, {21, 18, 3}, {20, 0, 4}, {4, 0, 4}, {3, Checks.NONE, Checks.NONE}};
        for (int[] w : fewest) {
            UpRiver x = Checks.river(text + "dark " + w[0] + ";");
            Checks.due("which, dark in " + w[0], x.start(1), w[1]);
            Checks.due("how many, dark in " + w[0], x.start(2), w[2]);
        }
        UpRiver x = Checks.river("reaches 2;point 8;beat 5;draught 20;deep 0 0 10;" + Checks.phases("high", 0, 0, 10));
        Checks.due("from 5, from 65, ..: the first", x.start(1), 5);
        Checks.due("two minutes", x.start(2), 2);
        Checks.due("the latest from 245 to 249", x.start(0), 249);
    }

    private static void startRefused() {
        Checks.sentence("19.refused", "BAD; NONE: none is.");
        UpRiver x = new UpRiver();
        Checks.allAre(Checks.BAD, "start", x::start, -1, 3, Checks.LEAST, Checks.MOST);
        UpRiver dark = Checks.river("dark 13;");
        UpRiver aground = Checks.river("deep 0 0 0;");
        for (int what = 0; what <= 2; what++) {
            Checks.due("dark before she can be up", dark.start(what), Checks.NONE);
            Checks.due("aground", aground.start(what), Checks.NONE);
        }
        Checks.due("just by dark", Checks.river("dark 14;").start(0), 0);
        Checks.due("just by dark", Checks.river("dark 14;").start(2), 14);
        Checks.allAre(Checks.BAD, "start, though none is", dark::start, -1, 3);
    }

    // ---- days

    /** At the start there is water in phase 1 alone, from 5 to 9; she needs it by 4: on days that begin 51 to 59 later. */
    private static void days() {
        Checks.sentence("20.days", "Of n days (1 to 14), on day d (0 first) PHASES beginning d times k MINUTES (0 to 99) later"
                + " (so that MINUTE t is what t less that would be, modulo 12 beats)");
        UpRiver x = Checks.river("reaches 2;point 8;beat 5;dark 6;draught 20;deep 0 0 10;" + Checks.phases("high", 0, 0, 10));
        for (int k = 0; k <= 99; k++) {
            int many = 0;
            int first = Checks.NONE;
            for (int n = 1; n <= 14; n++) {
                int later = (n - 1) * k % 60;
                if (later >= 51) {
                    many++;
                    first = first == Checks.NONE ? n - 1 : first;
                }
                Checks.due("how many of " + n + ", " + k + " later each", x.days(n, k, 0), many);
                Checks.due("the first of " + n + ", " + k + " later each", x.days(n, k, 1), first);
            }
        }
    }

    private static void daysByPhases() {
        Checks.sentence("20.phases", "(so that MINUTE t is what t less that would be, modulo 12 beats)");
        UpRiver x = Checks.river("reaches 2;beat 5;dark 4;tide 9 9 9 9 9 9 9 9 9 9 0 18;");
        Checks.due("up in 4 without a stream", x.days(1, 1, 0), 1);
        x = Checks.river("reaches 2;beat 5;dark 3;tide 9 9 9 9 9 9 9 9 9 9 0 18;");
        Checks.due("not in 3", x.days(1, 1, 0), 0);
        // One later, minute 0 is what -1 would be, in phase 11: 8 in the first minute, 4 in the next ones.
        Checks.due("day 1: 8, 12, 16", x.days(2, 1, 0), 1);
        Checks.due("the first", x.days(2, 1, 1), 1);
        Checks.due("days 2 to 5: 8, 16", x.days(6, 1, 0), 5);
        Checks.due("day 6, a minute in phase 10: 0, 8, 21", x.days(7, 1, 0), 6);
        Checks.due("day 7, two minutes in phase 10: 0, 0, 13", x.days(8, 1, 0), 6);
        Checks.due("12 beats later it is the same", x.days(2, 60, 0), 0);
        Checks.due("and one more", x.days(2, 61, 0), 1);
        // There is water on the shoal of lane 1 from 0 to 4; on the second day minute 0 is what 3, what 4 was.
        x = Checks.river("reaches 2;beat 5;draught 20;dark 50;bank 0 0 1;deep 0 1 15;" + Checks.phases("high", 0, 5));
        Checks.due("there in time both days", x.days(2, 57, 0), 2);
        Checks.due("not on the second", x.days(2, 56, 0), 1);
        // Both lanes of reach 0 are shoals; on the second day there is water from 10, from 11 on.
        x = Checks.river("reaches 2;beat 5;draught 20;dark 14;bank 0 0 1;deep 0 0 15;deep 0 1 15;" + Checks.phases("high", 0, 5));
        Checks.due("from 10 on, up in 14", x.days(2, 10, 0), 2);
        Checks.due("from 11 on, up in 15", x.days(2, 11, 0), 1);
        // She must turn on the shoal; on the second day there is water from 10 to 14.
        x = Checks.river("reaches 2;beat 5;draught 20;dark 17;bank 0 0 1;deep 0 1 15;deep 1 2 0;" + Checks.phases("high", 0, 5));
        Checks.due("turned while there is water", x.days(2, 10, 0), 2);
        Checks.due("a minute too late for dark", x.days(2, 11, 0), 1);

        Checks.sentence("20.dark", "how many have a start in MINUTE 0 that is UP by dark (what 0), the first (1; NONE)");
        x = Checks.river("reaches 2;dark 4;");
        Checks.due("all", x.days(14, 99, 0), 14);
        Checks.due("the first", x.days(14, 99, 1), 0);
        x = Checks.river("reaches 2;dark 3;");
        Checks.due("none", x.days(14, 99, 0), 0);
        Checks.due("none", x.days(14, 99, 1), Checks.NONE);
        x.set(15, 4, 0, 200);
        Checks.due("wherever she is", x.days(14, 99, 0), 0);
        x = Checks.river("reaches 2;bank 0 3 8;deep 0 0 0;dark 4;");
        x.set(15, 8, 1, 200);
        x.from(296);
        Checks.due("from the low lane, whatever was asked before", x.days(14, 99, 0), 14);
    }

    private static void daysRefused() {
        Checks.sentence("20.bad", "the first (1; NONE). BAD.");
        UpRiver x = Checks.river("reaches 2;");
        Checks.allAre(Checks.BAD, "n", n -> x.days(n, 0, 0), 0, -1, 15, Checks.LEAST, Checks.MOST);
        Checks.allAre(Checks.BAD, "k", k -> x.days(1, k, 0), -1, 100, Checks.LEAST, Checks.MOST);
        Checks.allAre(Checks.BAD, "what", what -> x.days(1, 0, what), -1, 2, Checks.LEAST, Checks.MOST);
        Checks.due("1 and 0", x.days(1, 0, 0), 1);
        Checks.due("14 and 99", x.days(14, 99, 0), 14);
    }

    // ---- a skipper's rule

    private static void skipperWaits() {
        Checks.sentence("T2.skipper.waits", "A SKIPPER by margin m, eyes e (1, 0): in each MINUTE: not AFLOAT: she WAITS.");
        UpRiver x = Checks.river("reaches 2;draught 20;deep 0 0 19;deep 0 8 19;wind 0 0;" + Checks.phases("high", 0, 0, 1));
        x.set(0, 0, 0, 0);
        Checks.due("till 30", skipped(x, 0, 0), "36 0 6");
        x.set(0, 8, 0, 0);
        Checks.due("though there is no lane ahead", skipped(x, 0, 0), "35 1 3");
        x.set(0, 8, 0, 29);
        Checks.due("the last minute of it", skipped(x, 0, 0), "35 1 3");
        x.set(0, 8, 0, 30);
        Checks.due("not any more", skipped(x, 0, 0), "35 1 3");
    }

    private static void skipperTurns() {
        Checks.sentence("T2.skipper.open", "The LANE ahead of her in her REACH is not OPEN");
        UpRiver x = Checks.river("reaches 2;point 8;bank 0 0 1;");
        x.set(0, 1, 0, 0);
        Checks.due("she could sail into the reach above, but turns", skipped(x, 0, 0), "6 2 2");
        x = Checks.river("reaches 2;point 8;bank 1 0 1;");
        x.set(0, 1, 0, 0);
        Checks.due("open in her reach, not in the one above: she can not", skipped(x, 0, 0), "-4 0 0");
        x = Checks.river("reaches 2;");
        x.set(0, 8, 0, 0);
        Checks.due("lane 9", skipped(x, 0, 0), "6 1 4");
        x.set(0, 0, 1, 0);
        Checks.due("lane -1", skipped(x, 0, 0), "6 1 4");
        x.set(12, 8, 0, 0);
        Checks.due("she could be up in a minute, but turns", skipped(x, 0, 0), "3 1 1");
    }

    private static void skipperByMargin() {
        Checks.sentence("T2.skipper.margin", "or DEPTH and HEIGHT there, summed, are less than draught and m, summed: she TURNS.");
        UpRiver x = Checks.river("reaches 2;deep 0 1 8;");
        Checks.due("8 is no less than 6 and 2", skipped(x, 2, 0), "4 0 4");
        Checks.due("8 is less than 6 and 3", skipped(x, 3, 0), "-4 150 0");
        x = Checks.river("reaches 2;deep 0 1 26;draught 6;");
        Checks.due("26 is no less than 6 and 20; then 20 is less", skipped(x, 20, 0), "-4 149 1");
        x = Checks.river("reaches 2;beat 5;deep 0 1 5;" + Checks.phases("high", 0, 0, 1));
        Checks.due("by the height of this minute", skipped(x, 0, 0), "12 4 4");
        x.set(0, 0, 0, 9);
        Checks.due("not of the next: she can not sail, and waits", skipped(x, 0, 0), "70 28 4");
        x = Checks.river("reaches 2;beat 5;deep 0 1 5;" + Checks.phases("high", 0, 0, 2));
        x.set(0, 0, 0, 8);
        Checks.due("5 and 2 are no less than 6 and 1", skipped(x, 1, 0), "12 0 4");
    }

    private static void skipperWithEyes() {
        Checks.sentence("T2.skipper.eyes", "Else, with eyes, if WAY of the other BOARD is greater than hers");
        UpRiver x = Checks.river("reaches 2;wind 0 0;");
        x.set(0, 4, 0, 0);
        Checks.due("6 is greater than 2", skipped(x, 0, 1), "5 1 3");
        Checks.due("without eyes", skipped(x, 0, 0), "8 1 6");
        x.set(0, 4, 1, 0);
        Checks.due("2 is not greater than 6", skipped(x, 0, 1), "3 0 3");
        x = Checks.river("reaches 2;");
        x.set(0, 4, 0, 0);
        Checks.due("as much is not greater", skipped(x, 0, 1), "4 0 4");
        x = Checks.river("reaches 2;shift 0;wind 0 0;wind 1 0;");
        x.set(0, 4, 0, 0);
        Checks.due("without a shift", skipped(x, 0, 1), "4 0 4");
        x = Checks.river("reaches 2;wind 0 0;wind 1 0;lee 0;lee 1;");
        x.set(12, 4, 0, 0);
        Checks.due("in a lee", skipped(x, 0, 1), "4 0 4");
        x = Checks.river("reaches 2;wind 0 2;");
        x.set(0, 4, 1, 0);
        Checks.due("the other way round", skipped(x, 0, 1), "5 1 3");

        Checks.sentence("T2.skipper.since", "and she has sailed since she turned (or it is the beginning): she TURNS.");
        x = Checks.river("reaches 2;wind 0 0;");
        Checks.due("at the beginning; not behind the turn at the bank; behind a minute sailed", skipped(x, 0, 1), "12 4 4");
        x.turn();
        x.turn();
        Checks.due("the beginning is where the question begins", skipped(x, 0, 1), "16 4 4");
    }

    private static void skipperCanNot() {
        Checks.sentence("T2.skipper.cannot", "Else she SAILS. What she can not do: she WAITS a MINUTE.");
        UpRiver x = Checks.river("reaches 2;turn 4;beat 5;bank 1 0 7;" + Checks.phases("tide", 9, 11));
        x.set(4, 8, 0, 0);
        Checks.due("she can not turn till 5: she waits minute by minute", skipped(x, 0, 0), "12 1 3");
        x = Checks.river("reaches 2;point 8;beat 5;draught 20;deep 1 1 15;" + Checks.phases("high", 0, 0, 5));
        Checks.due("she can not sail till 4", skipped(x, 0, 0), "6 0 2");
        x.set(0, 0, 0, 3);
        Checks.due("she can not sail in 3", skipped(x, 0, 0), "6 0 2");
        x = Checks.river("reaches 2;turn 9;");
        x.set(0, 8, 0, 290);
        Checks.due("no time to sail behind the turn", skipped(x, 0, 0), "-4 1 1");
        x.set(0, 8, 0, 292);
        Checks.due("no time to turn", skipped(x, 0, 0), "-4 0 0");
    }

    private static void skipper() {
        Checks.sentence("21.what", "A SKIPPER (m 0 to 20, e 0, 1) from where and when she is: the MINUTE in which she is UP (what 0; NONE), TURNS (1), MINUTES she sailed (2).");
        UpRiver x = new UpRiver();
        Checks.due("from the start", skipped(x, 0, 0), "14 1 12");
        Checks.due("m 14: 20 is no less than 20", skipped(x, 14, 1), "14 1 12");
        Checks.due("m 20", skipped(x, 20, 1), "-4 150 0");
        x.sail(8);
        x.turn();
        x.anchor(5);
        Checks.due("from where and when she is", skipped(x, 0, 0), "19 0 4");
        Checks.due("a question alone", Checks.boat(x), "15 32 8 1 1 0 1 8");
        x.set(0, 0, 0, 300);
        Checks.due("in 300", skipped(x, 0, 0), "-4 0 0");
        x.set(44, 0, 0, 299);
        Checks.due("up in 300", skipped(x, 0, 0), "300 0 1");

        Checks.sentence("21.refused", "BAD; STATE: she is UP.");
        UpRiver y = new UpRiver();
        Checks.allAre(Checks.BAD, "m", m -> y.skipper(m, 0, 0), -1, 21, Checks.LEAST, Checks.MOST);
        Checks.allAre(Checks.BAD, "e", e -> y.skipper(0, e, 0), -1, 2, Checks.LEAST, Checks.MOST);
        Checks.allAre(Checks.BAD, "what", what -> y.skipper(0, 0, what), -1, 3, Checks.LEAST, Checks.MOST);
        UpRiver up = upAt(9);
        for (int what = 0; what <= 2; what++) {
            Checks.due("up", up.skipper(0, 0, what), Checks.STATE);
        }
        Checks.due("up, no such m", up.skipper(21, 0, 0), Checks.BAD);
        Checks.due("up in 300", upAt(300).skipper(0, 0, 0), Checks.STATE);
    }

    // ---- promises 22 and 23

    private static String deepLanes(int r, int depth) {
        StringBuilder b = new StringBuilder();
        for (int lane = 0; lane <= 6; lane++) {
            b.append("deep ").append(r).append(' ').append(lane).append(' ').append(depth).append(';');
        }
        return b.toString();
    }

    private static void best() {
        Checks.sentence("22.best", "The m (0 to 20) with which she is UP first, of several the least (what 0), that MINUTE (1).");
        UpRiver x = new UpRiver();
        Checks.due("0 to 14 are alike", x.best(0, 0), 0);
        Checks.due("their minute", x.best(0, 1), 14);
        x = Checks.river("reaches 2;point 1;shift 0;bank 1 0 6;deep 0 7 8;");
        Checks.due("3 is the least that turns before the trap", x.best(0, 0), 3);
        Checks.due("in", x.best(0, 1), 20);
        x = Checks.river("reaches 2;point 1;draught 10;bank 1 0 6;" + deepLanes(0, 30) + deepLanes(1, 30) + "deep 0 7 29;deep 0 8 30;");
        Checks.due("20 alone", x.best(0, 0), 20);
        Checks.due("in", x.best(0, 1), 20);
        Checks.due("not 19", x.skipper(19, 0, 0), Checks.NONE);
        bestIsFirst("reaches 8;deep 0 7 8;deep 1 7 9;deep 2 1 10;deep 3 7 8;deep 4 2 12;" + Checks.twelve("tide", 6));
        bestIsFirst("reaches 8;deep 0 7 8;deep 0 1 9;deep 2 1 10;deep 3 7 8;wind 0 0;wind 2 2;" + Checks.twelve("tide", 6));
        bestIsFirst("reaches 5;eddy 0 7;eddy 0 6;deep 0 6 12;deep 1 6 13;eddy 1 2;wind 1 2;" + Checks.twelve("tide", 12));
    }

    private static void bestIsFirst(String text) {
        UpRiver x = Checks.river(text);
        for (int e = 0; e <= 1; e++) {
            int which = Checks.NONE;
            int least = Checks.NONE;
            for (int m = 20; m >= 0; m--) {
                int up = x.skipper(m, e, 0);
                if (up != Checks.NONE && (least == Checks.NONE || up <= least)) {
                    which = m;
                    least = up;
                }
            }
            Checks.due("which", x.best(e, 0), which);
            Checks.due("when", x.best(e, 1), least);
        }
    }

    private static void bestRefused() {
        Checks.sentence("22.refused", "BAD; STATE; NONE: with none.");
        UpRiver x = Checks.river("deep 0 0 0;");
        for (int e = 0; e <= 1; e++) {
            Checks.due("none", x.best(e, 0), Checks.NONE);
            Checks.due("none", x.best(e, 1), Checks.NONE);
        }
        Checks.allAre(Checks.BAD, "e", e -> x.best(e, 0), -1, 2, Checks.LEAST, Checks.MOST);
        Checks.allAre(Checks.BAD, "what", what -> x.best(0, what), -1, 2, Checks.LEAST, Checks.MOST);
        UpRiver up = upAt(9);
        Checks.due("up", up.best(0, 0), Checks.STATE);
        Checks.due("up", up.best(1, 1), Checks.STATE);
        Checks.due("up, no such e", up.best(2, 0), Checks.BAD);
    }

    private static void loses() {
        Checks.sentence("23.loses", "By how many MINUTES a SKIPPER is later than SOONEST.");
        UpRiver x = Checks.river("reaches 2;deep 0 2 7;deep 1 2 7;");
        Checks.due("none", x.loses(1, 0), 0);
        Checks.due("10 instead of 4", x.loses(2, 0), 6);
        x.anchor(20);
        Checks.due("wherever and whenever she is", x.loses(2, 0), 6);
        x = Checks.river("reaches 2;wind 0 0;");
        Checks.due("with eyes, 12 instead of 6", x.loses(0, 1), 6);
        Checks.due("without", x.loses(0, 0), 0);
        UpRiver wide = Checks.river("reaches 2;");
        wide.set(8, 7, 0, 0);
        Checks.due("he turns at the bank, 4 instead of 2", wide.loses(0, 0), 2);
        wide.set(8, 1, 1, 0);
        Checks.due("and at the other", wide.loses(0, 0), 2);
        Checks.sentence("23.refused", "BAD; STATE; NONE: he never is UP.");
        Checks.due("never up", x.loses(15, 0), Checks.NONE);
        Checks.due("nor can she", Checks.river("deep 0 0 0;").loses(0, 0), Checks.NONE);
        UpRiver y = x;
        Checks.allAre(Checks.BAD, "m", m -> y.loses(m, 0), -1, 21, Checks.LEAST, Checks.MOST);
        Checks.allAre(Checks.BAD, "e", e -> y.loses(0, e), -1, 2, Checks.LEAST, Checks.MOST);
        Checks.due("up", upAt(9).loses(0, 0), Checks.STATE);
        Checks.due("up, never up by his rule", upAt(9).loses(20, 0), Checks.STATE);
        Checks.due("up, no such m", upAt(9).loses(21, 0), Checks.BAD);
    }
}
