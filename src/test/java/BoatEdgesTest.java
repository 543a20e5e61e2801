/** The edges of the boat by hand: the terms under 2 up to 'Nothing is behind MINUTE 300', promises 10 to 14. */
public final class BoatEdgesTest {
    public static void main(String[] args) {
        all();
        Checks.finish();
    }

    static void all() {
        dividedDown();
        fineAndReach();
        boards();
        start();
        up();
        sails();
        sailsToWater();
        sailsToOtherReaches();
        turns();
        turnsToWater();
        waits();
        neither();
        nothingBehind300();
        sail();
        sailRefused();
        turn();
        anchor();
        now();
        set();
        setRefused();
    }

    /** What the boat is behind one minute's sail from there. */
    private static String sailed(UpRiver x, int fine, int lane, int board, int t) {
        x.set(fine, lane, board, t);
        int did = x.sail(1);
        return did + ": " + x.now(1) + " " + x.now(2) + " " + x.now(0);
    }

    private static String turned(UpRiver x, int fine, int lane, int board, int t) {
        x.set(fine, lane, board, t);
        int did = x.turn();
        return did + ": " + x.now(1) + " " + x.now(2) + " " + x.now(3) + " " + x.now(0);
    }

    // ---- the terms

    private static void dividedDown() {
        Checks.sentence("T.down", "Divided down is to the next whole number below");
        UpRiver x = Checks.river("reaches 2;lee 1;beat 7;" + Checks.phases("tide", 9, 9, 10));
        Checks.due("7 by 8 is 0: the way of reach 0", sailed(x, 7, 4, 0, 0), "1: 11 5 1");
        Checks.due("8 by 8 is 1: the way of reach 1", sailed(x, 8, 4, 0, 0), "1: 9 5 1");
        Checks.due("6 by 7 is 0: no stream", sailed(x, 0, 4, 0, 6), "1: 4 5 7");
        Checks.due("7 by 7 is 1: a stream", sailed(x, 0, 4, 0, 7), "1: 5 5 8");
        Checks.due("13 by 7 is 1: a stream", sailed(x, 0, 4, 0, 13), "1: 5 5 14");
        Checks.due("14 by 7 is 2: no stream", sailed(x, 0, 4, 0, 14), "1: 4 5 15");
        x = Checks.river("reaches 2;beat 5;draught 20;deep 0 0 19;dark 4;high 1 0 0 0 0 0 0 0 0 0 0 0;");
        Checks.due("0 by 5 is 0: water at the start", x.days(1, 1, 0), 1);
        Checks.due("-1 by 5 is -1, phase 11: no water", x.days(2, 1, 0), 1);
        Checks.due("-5 by 5 is -1, phase 11: no water", x.days(2, 5, 0), 1);
        Checks.due("-60 by 5 is -12, phase 0: water", x.days(2, 60, 0), 2);
        Checks.due("-61 by 5 is -13, phase 11: no water", x.days(2, 61, 0), 1);
        Checks.due("-56 by 5 is -12, phase 0: water", x.days(2, 56, 0), 2);
        Checks.due("-55 by 5 is -11, phase 1: no water", x.days(2, 55, 0), 1);
    }

    private static void fineAndReach() {
        Checks.sentence("T2.fine", "FINE (eighths of a REACH from below, 0 on; REACH: by 8, divided down)");
        UpRiver x = Checks.river("reaches 8;lee 1;lee 3;lee 5;lee 7;");
        for (int fine = 0; fine < 64; fine++) {
            int way = fine / 8 % 2 == 0 ? 4 : 1;
            String want = fine + way >= 64 ? "1: " + (fine + way) + " 4 1" : "1: " + (fine + way) + " 5 1";
            Checks.due("from " + fine, sailed(x, fine, 4, 0, 0), want);
        }
    }

    private static void boards() {
        Checks.sentence("T2.board", "on a BOARD: 0 (LANE more each MINUTE), 1 (less)");
        UpRiver x = new UpRiver();
        for (int lane = 0; lane <= 8; lane++) {
            Checks.due("board 0, lane " + lane, sailed(x, 0, lane, 0, 0), lane == 8 ? "0: 0 8 1" : "1: 4 " + (lane + 1) + " 1");
            Checks.due("board 1, lane " + lane, sailed(x, 0, lane, 1, 0), lane == 0 ? "0: 0 0 1" : "1: 4 " + (lane - 1) + " 1");
        }
    }

    private static void start() {
        Checks.sentence("T2.start", "At the start: FINE 0, the low LANE of REACH 0, BOARD 0.");
        Checks.due("a new one", Checks.boat(new UpRiver()), "0 0 0 0 1 0 0 0");
        for (int low = 0; low <= 8; low++) {
            Checks.due("low " + low, Checks.boat(Checks.river("bank 0 " + low + " 8;bank 1 0 3;")), "0 0 " + low + " 0 1 0 0 0");
        }
        Checks.due("not afloat there", Checks.boat(Checks.river("bank 0 2 8;deep 0 2 0;")), "0 0 2 0 0 0 0 0");
    }

    private static void up() {
        Checks.sentence("T2.up", "UP: FINE is 8 times reaches or more.");
        for (int reaches = 2; reaches <= 8; reaches++) {
            UpRiver x = Checks.river("reaches " + reaches + ";");
            int top = 8 * reaches;
            x.set(top - 5, 4, 0, 0);
            x.sail(1);
            Checks.due("one less", x.now(1) * 10 + x.now(5), (top - 1) * 10);
            x.set(top - 4, 4, 0, 0);
            x.sail(1);
            Checks.due("as much", x.now(1) * 10 + x.now(5), top * 10 + 1);
            x.set(top - 1, 4, 0, 0);
            x.sail(1);
            Checks.due("more", x.now(1) * 10 + x.now(5), (top + 3) * 10 + 1);
        }
    }

    private static void sails() {
        Checks.sentence("T2.sails", "she SAILS: FINE is WAY and FLOW more (0 at least), LANE one more or less");
        UpRiver x = Checks.river("reaches 2;" + Checks.twelve("tide", 5));
        Checks.due("none more", sailed(x, 3, 4, 0, 0), "1: 3 5 1");
        x = Checks.river("reaches 2;" + Checks.twelve("tide", 4));
        Checks.due("one less", sailed(x, 2, 4, 1, 0), "1: 1 3 1");
        Checks.due("to 0", sailed(x, 1, 4, 1, 0), "1: 0 3 1");
        Checks.due("0 at least", sailed(x, 0, 4, 1, 0), "1: 0 3 1");
        x = Checks.river("reaches 2;point 1;shift 8;wind 0 0;wind 1 0;" + Checks.twelve("tide", 0));
        Checks.due("16 less", sailed(x, 15, 4, 0, 0), "1: 0 5 1");
        Checks.due("16 less, 0 at least", sailed(x, 0, 4, 0, 0), "1: 0 5 1");
        Checks.due("none, on the other board", sailed(x, 9, 4, 1, 0), "1: 9 3 1");
        x = Checks.river("reaches 2;point 8;shift 8;wind 1 2;" + Checks.twelve("tide", 18));
        Checks.due("25 more", sailed(x, 15, 4, 0, 0), "1: 40 4 1");
        x = Checks.river("reaches 4;beat 5;lee 1;" + Checks.phases("tide", 9, 18, 0));
        Checks.due("the flow of the lane where she was", sailed(x, 0, 1, 0, 0), "1: 8 2 1");
        Checks.due("the flow of the minute that was", sailed(x, 0, 4, 0, 4), "1: 13 5 5");
        Checks.due("and of the next", sailed(x, 13, 4, 0, 5), "1: 5 5 6");
        Checks.due("the way of the reach where she was", sailed(x, 7, 4, 0, 10), "1: 11 5 11");
    }

    private static void sailsToWater() {
        Checks.sentence("T2.sails.up", "she is UP (her LANE stays then), or the place is AFLOAT in the next MINUTE, else she can not");
        UpRiver x = Checks.river("reaches 2;deep 1 5 0;");
        Checks.due("up, her lane stays", sailed(x, 12, 3, 0, 0), "1: 16 3 1");
        Checks.due("up at the bank", sailed(x, 12, 8, 0, 0), "1: 16 8 1");
        Checks.due("up at the other bank", sailed(x, 12, 0, 1, 0), "1: 16 0 1");
        Checks.due("up beside a shoal", sailed(x, 12, 4, 0, 0), "1: 16 4 1");
        Checks.due("not up beside a shoal", sailed(x, 11, 4, 0, 0), "0: 11 4 1");
        Checks.due("not up at the bank", sailed(x, 11, 8, 0, 0), "0: 11 8 1");
        x = Checks.river("beat 5;draught 20;deep 0 1 15;deep 0 3 14;" + Checks.phases("high", 0, 5));
        Checks.due("afloat in the next minute", sailed(x, 0, 0, 0, 3), "1: 4 1 4");
        Checks.due("no more in the next minute", sailed(x, 0, 0, 0, 4), "0: 0 0 5");
        Checks.due("not yet in the next minute", sailed(x, 0, 0, 0, 58), "0: 0 0 59");
        Checks.due("in the next minute, not in this one", sailed(x, 0, 0, 0, 59), "1: 4 1 60");
        Checks.due("too little water", sailed(x, 0, 2, 0, 0), "0: 0 2 1");
        Checks.due("from the other side, too", sailed(x, 0, 4, 1, 0), "0: 0 4 1");
    }

    private static void sailsToOtherReaches() {
        Checks.sentence("T2.sails.place", "or the place is AFLOAT in the next MINUTE");
        UpRiver x = Checks.river("reaches 2;point 8;deep 0 1 0;deep 1 3 0;bank 1 0 5;");
        Checks.due("the shoal is in the reach below", sailed(x, 0, 0, 0, 0), "1: 8 1 1");
        Checks.due("the shoal is in the reach above", sailed(x, 0, 2, 0, 0), "0: 0 2 1");
        Checks.due("the bank of the reach above", sailed(x, 0, 5, 0, 0), "0: 0 5 1");
        Checks.due("within it", sailed(x, 0, 4, 0, 0), "1: 8 5 1");
        x = Checks.river("reaches 2;point 1;bank 0 3 5;" + Checks.twelve("tide", 0));
        Checks.due("back into the reach below", sailed(x, 8, 2, 0, 0), "1: 0 3 1");
        Checks.due("its bank", sailed(x, 8, 5, 0, 0), "0: 8 5 1");
    }

    private static void turns() {
        Checks.sentence("T2.turns", "Or she TURNS: that takes turn MINUTES; the BOARD is the other one, FINE is turn times FLOW (at its beginning) more (0 at least)");
        for (int turn = 1; turn <= 9; turn++) {
            UpRiver x = Checks.river("reaches 4;beat 5;turn " + turn + ";" + Checks.phases("tide", 9, 10, 8));
            Checks.due("slack", turned(x, 3, 4, 0, 10), "1: 3 4 1 " + (10 + turn));
            Checks.due("one up", turned(x, 3, 4, 1, 4), "1: " + (3 + turn) + " 4 0 " + (4 + turn));
            Checks.due("one down", turned(x, 10, 4, 1, 5), "1: " + (10 - turn) + " 4 0 " + (5 + turn));
            Checks.due("to 0", turned(x, turn, 4, 1, 5), "1: 0 4 0 " + (5 + turn));
            Checks.due("0 at least", turned(x, turn - 1, 4, 1, 5), "1: 0 4 0 " + (5 + turn));
            Checks.due("half of one is none", turned(x, 5, 1, 1, 5), "1: 5 1 0 " + (5 + turn));
            Checks.due("at the bank", turned(x, 5, 8, 0, 10), "1: 5 8 1 " + (10 + turn));
        }
        UpRiver x = Checks.river("reaches 8;turn 9;" + Checks.twelve("tide", 0));
        Checks.due("81 back", turned(x, 63, 4, 0, 0), "1: 0 4 1 9");
    }

    private static void turnsToWater() {
        Checks.sentence("T2.turns.end", "UP, or AFLOAT in the MINUTE behind it, else she can not");
        UpRiver x = Checks.river("reaches 2;beat 5;deep 1 4 0;" + Checks.phases("tide", 9, 17, 16));
        Checks.due("up by just 16", turned(x, 0, 4, 0, 0), "1: 16 4 1 2");
        Checks.due("not up by 14, and no water there", turned(x, 0, 4, 0, 5), "0: 0 4 0 6");
        Checks.due("up by 14 from 2", turned(x, 2, 4, 0, 5), "1: 16 4 1 7");
        x = Checks.river("reaches 2;beat 5;draught 20;deep 0 4 15;" + Checks.phases("high", 0, 5));
        Checks.due("water behind it", turned(x, 0, 4, 0, 2), "1: 0 4 1 4");
        Checks.due("none behind it", turned(x, 0, 4, 0, 3), "0: 0 4 0 4");
        Checks.due("none behind it", turned(x, 0, 4, 0, 4), "0: 0 4 0 5");
        x = Checks.river("turn 9;beat 5;draught 20;deep 0 4 15;" + Checks.phases("high", 0, 5, 0, 5));
        Checks.due("none between is nothing", turned(x, 0, 4, 0, 4), "1: 0 4 1 13");
        x = Checks.river("reaches 2;turn 4;bank 1 0 3;" + Checks.twelve("tide", 11));
        Checks.due("the bank of the reach where she drifts", turned(x, 0, 4, 0, 0), "0: 0 4 0 1");
        x = Checks.river("reaches 2;turn 3;bank 1 0 3;" + Checks.twelve("tide", 11));
        Checks.due("she does not drift so far", turned(x, 0, 4, 0, 0), "1: 6 4 1 3");
    }

    private static void waits() {
        Checks.sentence("T2.waits", "Or she WAITS: all stays.");
        UpRiver x = Checks.river(Checks.twelve("tide", 0));
        x.set(20, 4, 1, 0);
        x.turn();
        x.sail(1);
        String was = Checks.boat(x);
        x.anchor(9);
        Checks.due("but the minute", Checks.boat(x), was.replaceFirst("\\d+", Integer.toString(3 + 9)));
        x = Checks.river("deep 0 4 0;" + Checks.twelve("tide", 18));
        x.set(5, 4, 1, 0);
        x.sail(3);
        x.turn();
        Checks.due("where she can not", Checks.boat(x), "4 5 4 1 0 0 0 0");
    }

    private static void neither() {
        Checks.sentence("T2.neither", "She neither sails nor turns where she is not AFLOAT in that MINUTE.");
        UpRiver x = Checks.river("reaches 2;deep 1 4 5;deep 0 4 5;");
        Checks.due("she would be up", sailed(x, 15, 4, 0, 0), "0: 15 4 1");
        Checks.due("there is water ahead", sailed(x, 0, 4, 0, 0), "0: 0 4 1");
        Checks.due("nor turns", turned(x, 0, 4, 0, 0), "0: 0 4 0 1");
        x = Checks.river("beat 5;draught 20;deep 0 4 15;" + Checks.phases("high", 0, 5));
        Checks.due("not yet", sailed(x, 0, 4, 0, 59), "0: 0 4 60");
        Checks.due("not yet", turned(x, 0, 4, 0, 59), "0: 0 4 0 60");
        Checks.due("now", sailed(x, 0, 4, 0, 60), "1: 4 5 61");
        Checks.due("now", turned(x, 0, 4, 0, 60), "1: 0 4 1 62");
        Checks.due("still", sailed(x, 0, 4, 0, 64), "1: 4 5 65");
        Checks.due("no more", sailed(x, 0, 4, 0, 65), "0: 0 4 66");
    }

    private static void nothingBehind300() {
        Checks.sentence("T2.300", "Nothing is behind MINUTE 300.");
        UpRiver x = Checks.river("reaches 2;");
        Checks.due("sails into 300", sailed(x, 0, 4, 0, 299), "1: 4 5 300");
        Checks.due("not behind it", sailed(x, 0, 4, 0, 300), "-3: 0 4 300");
        Checks.due("turns into 300", turned(x, 0, 4, 0, 298), "1: 0 4 1 300");
        Checks.due("not behind it", turned(x, 0, 4, 0, 299), "-3: 0 4 0 299");
        x.set(0, 4, 0, 299);
        Checks.due("waits into 300", x.anchor(1), 300);
        Checks.due("not behind it", x.anchor(1), Checks.FULL);
        x.set(12, 4, 0, 299);
        Checks.due("up in 300", x.soonest(), 300);
        Checks.due("a skipper, too", x.skipper(0, 0, 0), 300);
        x.set(12, 4, 0, 300);
        Checks.due("not behind it", x.soonest(), Checks.NONE);
        Checks.due("a skipper, too", x.skipper(0, 0, 0), Checks.NONE);
        x = Checks.river("reaches 2;turn 9;deep 0 3 0;deep 0 5 0;" + Checks.twelve("tide", 11));
        x.set(0, 4, 0, 291);
        Checks.due("up by a turn in 300", x.soonest(), 300);
        Checks.due("a skipper, too", x.skipper(0, 0, 0), 300);
        x.set(0, 4, 0, 292);
        Checks.due("not in 301", x.soonest(), Checks.NONE);
        Checks.due("a skipper, too", x.skipper(0, 0, 0), Checks.NONE);
    }

    // ---- promises 10 to 12

    private static void sail() {
        Checks.sentence("10.sails", "n MINUTES (1 to 99) she SAILS; where she can not, or is not AFLOAT, she WAITS: how many of them she sailed");
        UpRiver x = new UpRiver();
        Checks.due("sail(1)", x.sail(1), 1);
        Checks.due("sail(7) to the bank", x.sail(7), 7);
        Checks.due("sail(1) at the bank", x.sail(1), 0);
        Checks.due("sail(99) at the bank", x.sail(99), 0);
        Checks.due("the minutes pass", Checks.boat(x), "108 32 8 0 1 0 0 8");
        x = Checks.river("beat 5;draught 20;deep 0 1 15;" + Checks.phases("high", 0, 0, 5));
        Checks.due("waits for water ahead, then sails", x.sail(10), 6);
        Checks.due("from minute 4 on", Checks.boat(x), "10 24 6 0 1 0 0 6");
        x.set(0, 1, 0, 0);
        Checks.due("waits for water, then sails", x.sail(10), 5);
        Checks.due("from minute 5 on", Checks.boat(x), "10 20 6 0 1 0 0 5");

        Checks.sentence("10.up", "(none more, once she is UP)");
        x = Checks.river("reaches 2;");
        Checks.due("of 99", x.sail(99), 4);
        Checks.due("no minute more passes", Checks.boat(x), "4 16 3 0 1 1 0 4");
        x = Checks.river("reaches 2;");
        Checks.due("of 4", x.sail(4), 4);
        Checks.due("just", Checks.boat(x), "4 16 3 0 1 1 0 4");
    }

    private static void sailRefused() {
        Checks.sentence("10.bad", "(none more, once she is UP). BAD;");
        UpRiver x = Checks.river("reaches 2;");
        Checks.allAre(Checks.BAD, "sail", x::sail, 0, -1, 100, 301, Checks.LEAST, Checks.MOST);
        Checks.sentence("10.full", "FULL: n MINUTES more would be above 300.");
        for (int n : new int[] {1, 2, 98, 99}) {
            x.set(0, 8, 0, 300 - n);
            Checks.due("to 300 by " + n, x.sail(n), 0);
            Checks.due("in 300", x.now(0), 300);
            x.set(0, 8, 0, 301 - n);
            Checks.due("to 301 by " + n, x.sail(n), Checks.FULL);
            Checks.due("as it was", x.now(0), 301 - n);
        }
        x.set(15, 4, 0, 299);
        Checks.due("though she would be up before", x.sail(2), Checks.FULL);
        Checks.due("not yet", x.now(5), 0);
        Checks.sentence("10.state", "STATE: she is UP; FULL: n MINUTES more would be above 300.");
        Checks.due("up in 300", x.sail(1), 1);
        Checks.due("up", x.sail(1), Checks.STATE);
        Checks.due("up", x.sail(99), Checks.STATE);
        Checks.due("no such number", x.sail(100), Checks.BAD);
    }

    private static void turn() {
        Checks.sentence("11.turns", "She TURNS: 1; 0: she can not, or is not AFLOAT (she WAITS a MINUTE).");
        UpRiver x = Checks.river("turn 9;deep 0 4 5;beat 5;draught 20;deep 0 2 15;" + Checks.phases("high", 0, 5));
        Checks.due("turns", turned(x, 0, 0, 0, 0), "1: 0 0 1 9");
        Checks.due("one turn", x.now(6), 1);
        Checks.due("not afloat", turned(x, 0, 4, 1, 0), "0: 0 4 1 1");
        Checks.due("no turn", x.now(6), 0);
        Checks.due("she can not", turned(x, 0, 2, 0, 0), "0: 0 2 0 1");
        Checks.due("no turn", x.now(6), 0);
        Checks.due("no minute sailed", x.now(7), 0);

        Checks.sentence("11.full", "FULL: turn MINUTES more would be above 300.");
        for (int turn = 1; turn <= 9; turn++) {
            x = Checks.river("turn " + turn + ";deep 0 4 0;");
            Checks.due("to 300", turned(x, 0, 3, 0, 300 - turn), "1: 0 3 1 300");
            Checks.due("to 301", turned(x, 0, 3, 0, 301 - turn), "-3: 0 3 0 " + (301 - turn));
            Checks.due("in 300", turned(x, 0, 3, 0, 300), "-3: 0 3 0 300");
            Checks.due("not afloat, to 300", turned(x, 0, 4, 0, 300 - turn), "0: 0 4 0 " + (301 - turn));
            Checks.due("not afloat, to 301", turned(x, 0, 4, 0, 301 - turn), "-3: 0 4 0 " + (301 - turn));
        }

        Checks.sentence("11.state", "STATE: she is UP; FULL: turn MINUTES more would be above 300.");
        x = Checks.river("reaches 2;");
        x.set(15, 4, 0, 0);
        x.sail(1);
        Checks.due("up", x.turn(), Checks.STATE);
        x.set(15, 4, 0, 299);
        x.sail(1);
        Checks.due("up, in 300", x.turn(), Checks.STATE);
    }

    private static void anchor() {
        Checks.sentence("12.waits", "She WAITS n MINUTES (1 to 300): the MINUTE then.");
        UpRiver x = Checks.river("reaches 2;deep 0 4 0;");
        Checks.due("1", x.anchor(1), 1);
        Checks.due("299", x.anchor(299), 300);
        x.set(0, 0, 0, 0);
        Checks.due("300", x.anchor(300), 300);
        x.set(0, 4, 0, 7);
        Checks.due("where she is not afloat", x.anchor(3), 10);
        x.set(15, 3, 0, 7);
        x.sail(1);
        Checks.due("where she is up", x.anchor(3), 11);
        Checks.due("up still", x.now(5), 1);
        Checks.sentence("12.bad", "BAD; FULL: likewise.");
        Checks.allAre(Checks.BAD, "anchor", x::anchor, 0, -1, 301, Checks.LEAST, Checks.MOST);
        x.set(0, 0, 0, 1);
        Checks.due("to 301", x.anchor(300), Checks.FULL);
        Checks.due("as it was", x.now(0), 1);
        Checks.due("to 300", x.anchor(299), 300);
        Checks.due("to 301", x.anchor(1), Checks.FULL);
        Checks.due("no such number", x.anchor(301), Checks.BAD);
    }

    // ---- promises 13 and 14

    private static void now() {
        Checks.sentence("13.what", "0 MINUTE, 1 FINE, 2 LANE, 3 BOARD, 4 whether she is AFLOAT (UP: 1), 5 whether UP, 6 TURNS so far, 7 MINUTES in which she sailed.");
        UpRiver x = new UpRiver();
        x.sail(9);
        x.turn();
        x.sail(2);
        Checks.due("all", Checks.boat(x), "13 40 6 1 1 0 1 10");
        x.turn();
        x.turn();
        Checks.due("turns", x.now(6), 3);
        x = Checks.river("reaches 2;draught 20;deep 1 4 19;");
        x.set(8, 4, 0, 0);
        Checks.due("not afloat", x.now(4), 0);
        x.set(15, 3, 0, 0);
        x.sail(1);
        Checks.due("up: afloat", x.now(4), 1);
        x = Checks.river("reaches 2;beat 5;draught 20;deep 1 4 15;" + Checks.phases("high", 0, 5));
        x.set(15, 4, 0, 4);
        x.sail(1);
        Checks.due("up: afloat, though there is no water below", x.now(4), 1);
        Checks.sentence("13.bad", "7 MINUTES in which she sailed. BAD.");
        Checks.allAre(Checks.BAD, "now", x::now, -1, 8, 9, Checks.LEAST, Checks.MOST);
    }

    private static void set() {
        Checks.sentence("14.set", "She is set to FINE (0 to 8 times reaches less 1), an OPEN LANE there, a BOARD, a MINUTE (0 to 300)");
        UpRiver x = Checks.river("reaches 2;bank 0 0 3;bank 1 5 8;");
        int[][] good = {{0, 0, 0, 0}, {0, 3, 1, 300}, {7, 3, 0, 299}, {7, 0, 1, 1}, {8, 5, 0, 0}, {8, 8, 1, 0}, {15, 5, 0, 300}, {15, 8, 1, 300}};
        for (int[] g : good) {
            Checks.due("set", x.set(g[0], g[1], g[2], g[3]), 1);
            Checks.due("the boat", Checks.boat(x), g[3] + " " + g[0] + " " + g[1] + " " + g[2] + " 1 0 0 0");
        }
        x = Checks.river("reaches 2;");
        x.sail(4);
        Checks.due("when she was up", x.set(0, 0, 0, 0), 1);
        Checks.due("no more", x.now(5), 0);

        Checks.sentence("14.counts", "TURNS, MINUTES sailed are 0: whether she is AFLOAT.");
        x = Checks.river("draught 10;deep 0 4 9;deep 0 5 10;beat 5;deep 0 6 0;" + Checks.phases("high", 0, 0, 10));
        x.sail(2);
        x.turn();
        Checks.due("a turn, two minutes", x.now(6) * 10 + x.now(7), 12);
        Checks.due("too little", x.set(0, 4, 0, 0), 0);
        Checks.due("none", x.now(6) * 10 + x.now(7), 0);
        Checks.due("enough", x.set(0, 5, 0, 0), 1);
        Checks.due("not in 4", x.set(0, 6, 0, 4), 0);
        Checks.due("but in 5", x.set(0, 6, 0, 5), 1);
    }

    private static void setRefused() {
        Checks.sentence("14.bad", "TURNS, MINUTES sailed are 0: whether she is AFLOAT. BAD.");
        UpRiver x = Checks.river("reaches 2;bank 0 0 3;bank 1 5 8;");
        x.sail(1);
        Checks.allAre(Checks.BAD, "fine", fine -> x.set(fine, 3, 0, 0), -1, -8, 16, 17, 63, 64, Checks.LEAST, Checks.MOST);
        Checks.allAre(Checks.BAD, "lane in reach 0", lane -> x.set(7, lane, 0, 0), -1, 4, 5, 8, 9, Checks.LEAST, Checks.MOST);
        Checks.allAre(Checks.BAD, "lane in reach 1", lane -> x.set(8, lane, 0, 0), -1, 0, 3, 4, 9, Checks.LEAST, Checks.MOST);
        Checks.allAre(Checks.BAD, "board", board -> x.set(0, 0, board, 0), -1, 2, Checks.LEAST, Checks.MOST);
        Checks.allAre(Checks.BAD, "minute", t -> x.set(0, 0, 0, t), -1, 301, Checks.LEAST, Checks.MOST);
        Checks.due("as she was", Checks.boat(x), "1 4 1 0 1 0 0 1");
    }
}
