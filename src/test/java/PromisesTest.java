/** Each promise of the document: ordinary inputs, the edges it names, wrong inputs; the answers are worked out by hand. */
public final class PromisesTest {
    private static final int BAD = -1, STATE = -2, FULL = -3, NONE = -4;
    private static final int[] FAR = {Integer.MIN_VALUE, Integer.MAX_VALUE};
    private static int wrong;
    private static int asked;

    public static void main(String[] args) {
        newObject();
        feed();
        end();
        text();
        textResets();
        faults();
        rule();
        reach();
        flow();
        afloat();
        sail();
        sailOverShoals();
        turn();
        anchor();
        now();
        set();
        soonest();
        only();
        first();
        from();
        start();
        days();
        skipper();
        skipperWithEyes();
        best();
        loses();
        narrow();
        lead();
        near();
        logged();
        lost();
        swings();
        barge();
        images();
        sheets();
        read();
        count();
        System.out.println(asked + " answers, " + wrong + " wrong");
        System.exit(wrong == 0 ? 0 : 1);
    }

    private static void due(int promise, String what, int got, int want) {
        asked++;
        if (got != want) {
            wrong++;
            System.out.println("promise " + promise + ": " + what + " answered " + got + ", due is " + want);
        }
    }

    private static UpRiver river(String text) {
        UpRiver x = new UpRiver();
        Checks.feedText(x, text);
        int lines = x.text();
        due(4, "text() of " + text, lines, (int) text.chars().filter(c -> c == ';').count());
        return x;
    }

    private static String twelve(String name, String value) {
        return name + (" " + value).repeat(12) + ";";
    }

    // ---- the text, the river

    private static void newObject() {
        UpRiver x = new UpRiver();
        int[] rules = {6, 30, 6, 4, 2, 2, 300};
        for (int i = 0; i < rules.length; i++) {
            due(1, "rule " + i, x.rule(i), rules[i]);
        }
        for (int p = 0; p < 12; p++) {
            due(1, "stream", x.rule(10 + p), 9);
            due(1, "height", x.rule(30 + p), 0);
        }
        int[] ofReach = {0, 8, 0, 1, 4, 4};
        for (int r = 0; r < 6; r++) {
            for (int what = 0; what < 6; what++) {
                due(1, "reach " + r + " " + what, x.reach(r, what), ofReach[what]);
            }
            for (int lane = 0; lane < 9; lane++) {
                due(1, "depth", x.reach(r, 10 + lane), 20);
                due(1, "eddy", x.reach(r, 20 + lane), 0);
            }
        }
        int[] nows = {0, 0, 0, 0, 1, 0, 0, 0};
        for (int what = 0; what < nows.length; what++) {
            due(1, "now " + what, x.now(what), nows[what]);
        }
        for (int k = 0; k < 4; k++) {
            due(1, "lay on nothing", x.lay(k, 0, 0), -11);
        }
        due(1, "fault", x.fault(), 0);
        due(1, "torn", x.torn(), 0);
        due(1, "back", x.back(0), STATE);
        due(1, "soonest", x.soonest(), 14);
    }

    private static void feed() {
        UpRiver x = new UpRiver();
        due(2, "feed", x.feed(0x6c656520303b2020L), 8);
        due(2, "text of lee 0;", x.text(), 1);
        due(2, "lee", x.reach(0, 2), 1);
        for (int i = 1; i <= 50; i++) {
            due(2, "feed", x.feed(0x2020202020202020L), 8 * i);
        }
        due(2, "feed beyond 400", x.feed(0), FULL);
        due(2, "bytes", x.count(5), 400);
        x.end(393);
        due(2, "feed to 401", x.feed(0x2020202020202020L), FULL);
        x.end(392);
        due(2, "feed to 400", x.feed(0x2020202020202020L), 400);
        due(2, "text of blanks", x.text(), 0);
        x.feed(-1L);
        due(2, "bytes above 127 are no token", x.text(), -10);
        due(2, "fault", x.fault(), 1);
        x.feed(0x6c656520303b20ffL);
        due(2, "the lowest byte is last", x.text(), -17);
    }

    private static void end() {
        UpRiver x = new UpRiver();
        due(3, "end of nothing", x.end(0), 0);
        due(3, "end beyond nothing", x.end(1), BAD);
        Checks.feedText(x, "lee 1;xx");
        due(3, "end(-1)", x.end(-1), BAD);
        due(3, "end(9)", x.end(9), BAD);
        for (int far : FAR) {
            due(3, "end far off", x.end(far), BAD);
        }
        due(3, "end(8)", x.end(8), 8);
        due(3, "end(6)", x.end(6), 8);
        due(3, "end(7) of 6", x.end(7), BAD);
        due(3, "bytes", x.count(5), 6);
        due(3, "text", x.text(), 1);
        due(3, "lee", x.reach(1, 2), 1);
        Checks.feedText(x, "lee 1;xx");
        due(3, "end(0)", x.end(0), 8);
        due(3, "end(0) again", x.end(0), 0);
    }

    private static void textIs(String text, int want, int fault) {
        UpRiver x = new UpRiver();
        Checks.feedText(x, text);
        due(4, "text() of '" + text + "'", x.text(), want);
        due(5, "fault() of '" + text + "'", x.fault(), fault);
        due(4, "bytes then", x.count(5), 0);
    }

    private static void text() {
        textIs("", 0, 0);
        textIs("     ", 0, 0);
        textIs("dark5;", 1, 0);
        textIs("  dark  5  ;  ", 1, 0);
        textIs("dark5;lee0;eddy1 2;wind3 0;", 4, 0);
        textIs("dark 005;", 1, 0);
        textIs("lee 0;lee 1;lee 5;eddy 0 1;eddy 1 1;eddy 0 2;deep 0 1 0;deep 0 2 30;bank 0 0 0;bank 5 8 8;", 10, 0);
        textIs("reaches 8;bank 7 0 8;deep 7 8 1;eddy 7 8;lee 7;wind 7 2;", 6, 0);
        textIs("bank 7 0 8;reaches 8;", 2, 0);
        textIs("reaches 2;beat 5;draught 1;point 1;shift 0;turn 1;dark 1;", 7, 0);
        textIs("reaches 8;beat 120;draught 20;point 8;shift 8;turn 9;dark 300;", 7, 0);
        textIs(twelve("tide", "18") + twelve("high", "15"), 2, 0);
        textIs(twelve("tide", "0") + twelve("high", "0"), 2, 0);
    }

    private static void textResets() {
        UpRiver x = river("reaches 3;bank 0 2 6;lee 1;eddy 0 3;");
        x.sail(2);
        x.logged(0, 1);
        x.swing(1);
        x.keep(0);
        x.sheet(0, 0, 5);
        x.read(1, 0, 0, 1);
        Checks.feedText(x, "dark 0;");
        due(4, "a fault", x.text(), -15);
        due(5, "fault", x.fault(), 3);
        due(4, "what was told stays", x.rule(0) * 10 + x.count(2) + x.count(3), 32);
        due(4, "the boat stays", x.now(1) * 10 + x.now(2), 84);
        due(4, "logged, swings, images stay", x.count(0) + x.count(1) + x.count(4), 3);
        Checks.feedText(x, "beat 5;bank 0 3 6;");
        due(4, "taken", x.text(), 2);
        due(5, "fault", x.fault(), 0);
        due(4, "not told: as at first", x.rule(0) * 10 + x.count(2) + x.count(3), 60);
        due(4, "the boat at the start", x.now(0) + x.now(1) + x.now(6) + x.now(7), 0);
        due(4, "in the low lane", x.now(2), 3);
        due(4, "logged, swings, images are gone", x.count(0) + x.count(1) + x.count(4), 0);
        due(4, "no image", x.back(0), STATE);
        due(4, "sheets stay", x.count(6), 5);
        due(38, "torn stays", x.torn(), 1);
        due(4, "empty: as at first", x.text(), 0);
        due(4, "beat", x.rule(1), 30);
    }

    private static void faults() {
        String[] names = {"reaches", "beat", "draught", "point", "shift", "turn", "dark"};
        int[] least = {2, 5, 1, 1, 0, 1, 1};
        int[] most = {8, 120, 20, 8, 8, 9, 300};
        for (int i = 0; i < names.length; i++) {
            int place = names[i].length() + 1;
            textIs(names[i] + " " + (most[i] + 1) + ";", -10 - place, 3);
            if (least[i] > 0) {
                textIs(names[i] + " " + (least[i] - 1) + ";", -10 - place, 3);
            }
            String once = names[i] + " " + least[i] + ";";
            textIs(once + once, -10 - once.length(), 4);
            textIs(once + names[i] + " 999;", -10 - once.length(), 4);
        }
        textIs("dark 1000;", -15, 1);
        textIs("0001", -10, 1);
        textIs("dark.5;", -14, 1);
        textIs("Dark 5;", -10, 1);
        textIs("dark 5;-", -17, 1);
        textIs("dark -5;", -15, 1);
        textIs("dar k 5;", -10, 2);
        textIs("darkk 5;", -10, 2);
        textIs("winds 0 1;.", -10, 2);
        textIs("dark five;", -15, 2);
        textIs(" ;", -11, 2);
        textIs("7", -10, 2);
        textIs("zoo 1;", -10, 2);
        textIs("a", -10, 2);
        textIs("dark", -14, 2);
        textIs("dark   ", -17, 2);
        textIs("dark 5 ", -17, 2);
        textIs("dark 5 5;", -17, 2);
        textIs("dark 5 lee 0;", -17, 2);
        textIs("bank 8 0 1;", -15, 3);
        textIs("bank 0 9 9;", -17, 3);
        textIs("bank 0 3 2;", -19, 3);
        textIs("bank 0 3 9;", -19, 3);
        textIs("bank 0 3;", -18, 2);
        textIs("deep 8 0 0;", -15, 3);
        textIs("deep 0 9 0;", -17, 3);
        textIs("deep 0 8 31;", -19, 3);
        textIs("eddy 8 0;", -15, 3);
        textIs("eddy 0 9;", -17, 3);
        textIs("lee 8;", -14, 3);
        textIs("wind 8 0;", -15, 3);
        textIs("wind 0 3;", -17, 3);
        textIs("bank 1 0 1;bank 1 9;", -26, 4);
        textIs("deep 1 2 3;deep 1 2 99;", -28, 4);
        textIs("eddy 1 2;eddy 1 2;", -26, 4);
        textIs("lee 1;lee 1;", -20, 4);
        textIs("wind 1 2;wind 1 2;", -24, 4);
        textIs(twelve("tide", "9") + "tide", -10 - 29, 4);
        textIs(twelve("high", "9") + "high", -10 - 29, 4);
        textIs("tide 19", -15, 3);
        textIs("high 16", -15, 3);
        textIs("tide 1 2 3 4 5 6 7 8 9 10 11;", -10 - 28, 2);
        textIs("reaches 8;deep 7 8 1;deep 7 8 1;", -38, 4);
        textIs("reaches 8;eddy 7 8;eddy 7 8;", -36, 4);
        textIs("deep 1 0 1;eddy 1 0;deep 0 8 1;eddy 0 8;deep 0 0 1;eddy 0 0;", 6, 0);
        textIs("bank 0 0 1;lee 0;wind 0 0;bank 1 0 1;lee 1;wind 1 0;", 6, 0);
        textIs("lee 6;", -16, 5);
        textIs("reaches 3;lee 3;  ", -28, 5);
        textIs("lee 5;reaches 5;", -26, 5);
        textIs("reaches 2;deep 2 0 0;", -31, 5);
        textIs("reaches 2;eddy 7 0;", -29, 5);
        textIs("reaches 2;wind 2 0;", -29, 5);
        textIs("lee 6;dark 0;", -21, 3);
    }

    private static void rule() {
        UpRiver x = river("reaches 4;beat 7;draught 8;point 5;shift 3;turn 6;dark 99;"
                + "tide 0 1 2 3 4 5 6 7 8 9 10 18;high 15 14 13 12 11 10 9 8 7 6 5 0;");
        int[] rules = {4, 7, 8, 5, 3, 6, 99};
        for (int i = 0; i < 7; i++) {
            due(6, "rule " + i, x.rule(i), rules[i]);
        }
        for (int p = 0; p < 12; p++) {
            due(6, "stream of " + p, x.rule(10 + p), p == 11 ? 18 : p);
            due(6, "height of " + p, x.rule(30 + p), p == 11 ? 0 : 15 - p);
        }
        for (int bad : new int[] {-1, 7, 9, 22, 29, 42, FAR[0], FAR[1]}) {
            due(6, "rule " + bad, x.rule(bad), BAD);
        }
    }

    private static void reach() {
        UpRiver x = river("reaches 3;point 1;shift 4;bank 0 2 6;wind 0 0;wind 1 2;wind 2 2;lee 2;deep 1 8 30;deep 1 0 0;eddy 0 0;eddy 2 8;");
        int[][] want = {{2, 6, 0, 0, -3, 5}, {0, 8, 0, 2, 5, -3}, {0, 8, 1, 2, 1, 1}};
        for (int r = 0; r < 3; r++) {
            for (int what = 0; what < 6; what++) {
                due(7, "reach " + r + " " + what, x.reach(r, what), want[r][what]);
            }
        }
        due(7, "depth", x.reach(1, 18), 30);
        due(7, "depth", x.reach(1, 10), 0);
        due(7, "depth", x.reach(1, 11), 20);
        due(7, "eddy", x.reach(0, 20), 1);
        due(7, "eddy", x.reach(2, 28), 1);
        due(7, "no eddy", x.reach(2, 20), 0);
        for (int bad : new int[] {-1, 6, 9, 19, 29, FAR[0], FAR[1]}) {
            due(7, "what " + bad, x.reach(0, bad), BAD);
        }
        for (int bad : new int[] {-1, 3, 7, 8, FAR[0], FAR[1]}) {
            due(7, "reach " + bad, x.reach(bad, 0), BAD);
        }
    }

    private static void flow() {
        UpRiver x = river("beat 5;bank 1 1 7;bank 2 3 4;bank 3 5 5;eddy 0 4;eddy 0 0;tide 16 2 9 9 9 9 9 9 9 9 9 18;");
        int[] across = {-3, 3, 7, 7, -7, 7, 7, 3, 3};
        for (int lane = 0; lane < 9; lane++) {
            due(8, "flow in lane " + lane, x.flow(0, lane, 0), across[lane]);
        }
        due(8, "half, cut towards 0", x.flow(0, 1, 5), -3);
        due(8, "half of it, eddy", x.flow(0, 0, 9), 3);
        due(8, "none", x.flow(0, 3, 10), 0);
        due(8, "phase 11", x.flow(0, 3, 59), 9);
        due(8, "phase 0 again", x.flow(0, 3, 60), 7);
        due(8, "minute 300", x.flow(0, 3, 300), 7);
        int[] narrower = {-1000, 3, 3, 7, 7, 7, 3, 3, -1000};
        for (int lane = 0; lane < 9; lane++) {
            due(8, "between banks, lane " + lane, x.flow(1, lane, 4), narrower[lane]);
        }
        due(8, "two lanes", x.flow(2, 3, 0), 3);
        due(8, "one lane", x.flow(3, 5, 0), 3);
        for (int bad : new int[] {-1, 9, FAR[0], FAR[1]}) {
            due(8, "lane " + bad, x.flow(0, bad, 0), -1000);
        }
        for (int bad : new int[] {-1, 6, 8, FAR[0], FAR[1]}) {
            due(8, "reach " + bad, x.flow(bad, 4, 0), -1000);
        }
        for (int bad : new int[] {-1, 301, FAR[0], FAR[1]}) {
            due(8, "minute " + bad, x.flow(0, 3, bad), -1000);
        }
    }

    private static void afloat() {
        UpRiver x = river("beat 10;draught 10;deep 0 4 7;deep 0 5 0;bank 1 3 5;high 0 2 3 4 0 0 0 0 0 0 0 0;");
        due(9, "afloat first", x.afloat(0, 4, 0, 0), 20);
        due(9, "afloat now", x.afloat(0, 4, 39, 0), 39);
        due(9, "afloat again", x.afloat(0, 4, 40, 0), 140);
        due(9, "afloat no more", x.afloat(0, 4, 280, 0), NONE);
        due(9, "aground", x.afloat(0, 4, 25, 1), 40);
        due(9, "aground now", x.afloat(0, 4, 0, 1), 0);
        due(9, "always", x.afloat(0, 3, 0, 1), NONE);
        due(9, "never", x.afloat(0, 5, 0, 0), NONE);
        due(9, "not open", x.afloat(1, 2, 7, 1), 7);
        due(9, "not open", x.afloat(1, 2, 7, 0), NONE);
        due(9, "minute 300", x.afloat(0, 3, 300, 0), 300);
        int[][] bad = {{-1, 0, 0, 0}, {6, 0, 0, 0}, {0, -1, 0, 0}, {0, 9, 0, 0}, {0, 0, -1, 0}, {0, 0, 301, 0}, {0, 0, 0, -1}, {0, 0, 0, 2}};
        for (int[] b : bad) {
            due(9, "bad", x.afloat(b[0], b[1], b[2], b[3]), BAD);
        }
    }

    // ---- by hand

    private static void sail() {
        UpRiver x = new UpRiver();
        for (int bad : new int[] {0, -1, 100, FAR[0], FAR[1]}) {
            due(10, "sail " + bad, x.sail(bad), BAD);
        }
        due(10, "sail 3", x.sail(3), 3);
        due(10, "fine", x.now(1), 12);
        due(10, "lane", x.now(2), 3);
        due(10, "to the bank", x.sail(9), 5);
        due(10, "minute", x.now(0), 12);
        due(10, "minutes sailed", x.now(7), 8);
        x.turn();
        due(10, "board 1 goes down the lanes, till up", x.sail(99), 4);
        due(10, "the lane stays when up", x.now(2), 5);
        due(10, "no minute more when up", x.now(0), 18);
        due(10, "fine", x.now(1), 48);
        due(10, "up", x.sail(1), STATE);
        due(10, "bad is first", x.sail(0), BAD);
        x.set(0, 0, 0, 202);
        due(10, "beyond 300", x.sail(99), FULL);
        due(10, "nothing changed", x.now(0), 202);
        due(10, "to 300", x.sail(98), 8);
        due(10, "at 300", x.sail(1), FULL);
        x = river("reaches 2;point 8;bank 1 3 5;");
        due(10, "the reach above is not open there", x.sail(5), 0);
        due(10, "she waited", x.now(0), 5);
        x.set(8, 5, 0, 0);
        due(10, "up at the bank", x.sail(9), 1);
        due(10, "her lane stays", x.now(2), 5);
        x = river("reaches 2;" + twelve("tide", "0"));
        due(10, "against the stream", x.sail(3), 3);
        due(10, "fine is 0 at least", x.now(1), 0);
        x.set(15, 2, 0, 0);
        x.sail(1);
        due(10, "back a reach", x.now(1), 10);
        x.sail(1);
        due(10, "less", x.now(1), 5);
    }

    private static void sailOverShoals() {
        UpRiver x = river("beat 5;draught 20;deep 0 1 15;high 5 0 0 0 0 0 0 0 0 0 0 0;");
        x.set(0, 0, 0, 4);
        due(10, "afloat in the next minute counts", x.sail(1), 0);
        x.set(0, 0, 0, 3);
        due(10, "still afloat", x.sail(2), 2);
        x.set(0, 1, 0, 5);
        due(10, "not afloat: she waits", x.sail(3), 0);
        due(10, "minute", x.now(0), 8);
        due(11, "not afloat: she does not turn", x.turn(), 0);
        due(11, "she waits a minute", x.now(0), 9);
        due(11, "board", x.now(3), 0);
        x.set(0, 1, 0, 3);
        due(11, "not afloat behind the turn", x.turn(), 0);
        due(11, "she waits a minute", x.now(0), 4);
        x.set(0, 1, 0, 2);
        due(11, "afloat behind the turn", x.turn(), 1);
        x.set(0, 0, 0, 59);
        due(10, "water again in phase 0", x.sail(1), 1);
    }

    private static void turn() {
        UpRiver x = river("reaches 2;turn 3;beat 5;tide 12 6 18 9 9 9 9 9 9 9 9 9;eddy 0 4;");
        x.set(0, 3, 0, 4);
        due(11, "turn", x.turn(), 1);
        due(11, "board", x.now(3), 1);
        due(11, "minute", x.now(0), 7);
        due(11, "flow at its beginning, thrice", x.now(1), 9);
        due(11, "lane", x.now(2), 3);
        due(11, "turns", x.now(6), 1);
        due(11, "turn", x.turn(), 1);
        due(11, "fine 0 at least", x.now(1), 0);
        due(11, "turns", x.now(6), 2);
        due(11, "board", x.now(3), 0);
        x.set(0, 4, 0, 10);
        x.turn();
        due(11, "an eddy", x.now(1), 0);
        x.set(7, 3, 0, 10);
        due(11, "up by a turn", x.turn(), 1);
        due(11, "fine", x.now(1), 34);
        due(11, "up", x.now(5), 1);
        due(11, "turn when up", x.turn(), STATE);
        x.set(0, 3, 0, 297);
        due(11, "to 300", x.turn(), 1);
        x.set(0, 3, 0, 298);
        due(11, "beyond 300", x.turn(), FULL);
        due(11, "nothing changed", x.now(0), 298);
        x = river("reaches 2;bank 1 0 2;turn 4;" + twelve("tide", "11"));
        x.set(7, 4, 0, 0);
        due(11, "not open in the reach she drifts to", x.turn(), 0);
        due(11, "all stays but the minute", x.now(0) * 100 + x.now(1) * 10 + x.now(3), 170);
        due(11, "turns", x.now(6), 0);
    }

    private static void anchor() {
        UpRiver x = new UpRiver();
        for (int bad : new int[] {0, -1, 301, FAR[0], FAR[1]}) {
            due(12, "anchor " + bad, x.anchor(bad), BAD);
        }
        due(12, "anchor", x.anchor(1), 1);
        due(12, "anchor", x.anchor(299), 300);
        due(12, "beyond", x.anchor(1), FULL);
        x.set(44, 0, 0, 0);
        due(12, "beyond", x.anchor(300), 300);
        x.set(44, 0, 0, 1);
        due(12, "beyond", x.anchor(300), FULL);
        x.sail(1);
        due(12, "when up", x.anchor(7), 9);
        due(12, "all stays", x.now(1), 48);
    }

    private static void now() {
        UpRiver x = new UpRiver();
        x.sail(8);
        x.turn();
        x.sail(1);
        int[] want = {11, 36, 7, 1, 1, 0, 1, 9};
        for (int what = 0; what < 8; what++) {
            due(13, "now " + what, x.now(what), want[what]);
        }
        x.sail(9);
        due(13, "up: afloat", x.now(4), 1);
        due(13, "up", x.now(5), 1);
        for (int bad : new int[] {-1, 8, FAR[0], FAR[1]}) {
            due(13, "now " + bad, x.now(bad), BAD);
        }
        x = river("deep 0 2 5;");
        x.set(0, 2, 0, 0);
        due(13, "not afloat", x.now(4), 0);
    }

    private static void set() {
        UpRiver x = river("reaches 2;bank 1 2 6;deep 1 6 5;");
        x.sail(1);
        x.turn();
        due(14, "set", x.set(15, 5, 1, 300), 1);
        int[] want = {300, 15, 5, 1, 1, 0, 0, 0};
        for (int what = 0; what < 8; what++) {
            due(14, "now " + what, x.now(what), want[what]);
        }
        due(14, "aground", x.set(8, 6, 0, 0), 0);
        int[][] bad = {{-1, 3, 0, 0}, {16, 3, 0, 0}, {8, 1, 0, 0}, {8, 7, 0, 0}, {0, -1, 0, 0}, {0, 9, 0, 0}, {0, 0, -1, 0},
            {0, 0, 2, 0}, {0, 0, 0, -1}, {0, 0, 0, 301}, {FAR[0], 0, 0, 0}, {FAR[1], 0, 0, 0}, {0, FAR[0], 0, 0}, {0, FAR[1], 0, 0}};
        for (int[] b : bad) {
            due(14, "bad", x.set(b[0], b[1], b[2], b[3]), BAD);
        }
        due(14, "nothing changed", x.now(1) * 10 + x.now(2), 86);
    }

    // ---- the soonest way

    private static void soonest() {
        UpRiver x = new UpRiver();
        due(15, "soonest", x.soonest(), 14);
        x.sail(8);
        due(15, "from where she is", x.soonest(), 14);
        x.anchor(10);
        due(15, "and when", x.soonest(), 24);
        x.sail(1);
        due(15, "aside", x.soonest(), 25);
        x.set(47, 4, 0, 299);
        due(15, "in 300", x.soonest(), 300);
        x.set(47, 4, 0, 300);
        due(15, "nothing behind 300", x.soonest(), NONE);
        x.set(44, 4, 0, 0);
        x.sail(1);
        due(15, "up", x.soonest(), STATE);
        // She waits at anchor at 0 till the stream turns; then ten a minute.
        x = river("reaches 2;point 1;beat 20;tide 0 0 18 9 9 9 9 9 9 9 9 9;");
        x.set(0, 4, 0, 0);
        due(15, "with the tide", x.soonest(), 42);
        // A turn that drifts up in its nine minutes is sooner than to sail and fall aground.
        x = river("reaches 2;point 1;turn 9;draught 20;" + twelve("tide", "11") + "deep 0 5 0;deep 0 3 0;deep 1 5 0;deep 1 3 0;");
        x.set(0, 4, 0, 0);
        due(15, "up by a turn", x.soonest(), 9);
        // To turn in eight minutes against eight drifts her 64 eighths back, to 0; it is sooner than to wait for slack water.
        x = river("reaches 2;turn 8;beat 8;deep 0 7 0;deep 1 7 0;tide 1 9 9 9 9 9 9 9 9 9 9 9;");
        x.set(0, 6, 0, 0);
        due(15, "a turn in the worst of the stream", x.soonest(), 12);
        due(17, "she turns", x.first(), 1);
        x = river("reaches 2;deep 0 0 0;");
        due(15, "aground for ever", x.soonest(), NONE);
        soonestOverShoals();
    }

    /** Lane 1 has water from 0 to 4, from 60 to 64, and so on: she comes there in one of these minutes or not at all. */
    private static void soonestOverShoals() {
        String shoal = "reaches 2;beat 5;draught 20;bank 0 0 1;deep 0 1 15;high 5 0 0 0 0 0 0 0 0 0 0 0;";
        UpRiver x = river(shoal);
        due(15, "over the shoal", x.soonest(), 4);
        x.set(4, 0, 0, 10);
        due(15, "above the shoal", x.soonest(), 13);
        x.set(0, 0, 0, 3);
        due(15, "just in time", x.soonest(), 7);
        x.set(0, 0, 0, 4);
        due(15, "not in time: waits till 59", x.soonest(), 63);
        due(17, "of several the first: to turn and turn again costs nothing", x.first(), 1);
        x.set(0, 0, 0, 58);
        due(17, "nothing but to wait", x.first(), 2);
        x.set(0, 0, 0, 59);
        due(15, "sails as the water comes", x.soonest(), 63);
        x.set(0, 0, 0, 58);
        due(15, "not sooner", x.soonest(), 63);
        x.set(4, 1, 1, 2);
        due(16, "a turn that ends in time", x.only(1, 8), 7);
        x.set(4, 1, 1, 3);
        due(16, "one that does not: she waits for the next water", x.only(1, 8), 65);
    }

    private static void only() {
        UpRiver x = river("reaches 2;");
        due(16, "all", x.only(0, 8), 4);
        due(16, "two lanes", x.only(0, 1), 8);
        due(16, "three lanes", x.only(0, 2), 6);
        due(16, "one lane", x.only(0, 0), NONE);
        due(16, "not hers", x.only(1, 8), NONE);
        due(16, "upside down", x.only(5, 4), BAD);
        int[][] bad = {{-1, 3}, {0, 9}, {9, 9}, {-1, -1}, {FAR[0], 8}, {0, FAR[1]}};
        for (int[] b : bad) {
            due(16, "bad", x.only(b[0], b[1]), BAD);
        }
        x.sail(3);
        due(16, "where she is", x.only(3, 3), 4);
        x.sail(1);
        due(16, "up", x.only(0, 8), STATE);
        due(16, "bad is first", x.only(0, 9), BAD);
        x = river("reaches 2;bank 1 0 1;");
        due(16, "where they are open", x.only(0, 8), 8);
    }

    private static void first() {
        UpRiver x = new UpRiver();
        due(17, "sails", x.first(), 0);
        x.sail(8);
        due(17, "turns", x.first(), 1);
        x.set(24, 4, 0, 0);
        due(17, "of several the first", x.first(), 0);
        due(17, "a question alone", x.now(0) * 100 + x.now(1), 24);
        x = river("reaches 2;beat 5;draught 20;deep 0 0 10;high 0 10 0 0 0 0 0 0 0 0 0 0;");
        due(17, "waits", x.first(), 2);
        x.set(8, 0, 1, 4);
        due(17, "turns at the bank", x.first(), 1);
        x.set(0, 0, 0, 10);
        due(17, "aground till 65", x.first(), 2);
        x.set(0, 0, 0, 299);
        due(17, "never", x.first(), NONE);
        x.set(15, 4, 0, 0);
        due(17, "up in a minute", x.first(), 0);
        x.sail(1);
        due(17, "up", x.first(), STATE);
    }

    private static void from() {
        UpRiver x = river("reaches 2;point 8;turn 1;");
        x.set(12, 8, 1, 200);
        due(18, "from", x.from(0), 2);
        due(18, "from", x.from(10), 12);
        due(18, "from", x.from(298), 300);
        due(18, "from", x.from(299), NONE);
        due(18, "from", x.from(300), NONE);
        for (int bad : new int[] {-1, 301, FAR[0], FAR[1]}) {
            due(18, "from " + bad, x.from(bad), BAD);
        }
        x.sail(1);
        due(18, "when she is up, too", x.from(0), 2);
        x = river("reaches 2;point 8;bank 0 8 8;");
        due(18, "at the bank, board 0: a turn first", x.from(0), 4);
    }

    private static void start() {
        UpRiver x = river("reaches 2;point 8;");
        due(19, "latest", x.start(0), 298);
        due(19, "quickest", x.start(1), 0);
        due(19, "minutes", x.start(2), 2);
        x = river("reaches 2;point 8;dark 50;");
        due(19, "by dark", x.start(0), 48);
        x = river("reaches 2;point 8;dark 2;");
        due(19, "by dark", x.start(0), 0);
        x = river("reaches 2;point 8;dark 1;");
        due(19, "none", x.start(0), NONE);
        due(19, "none", x.start(1), NONE);
        due(19, "none", x.start(2), NONE);
        // Afloat at the start from 5 to 9 and from 65 to 69 alone.
        x = river("reaches 2;point 8;beat 5;dark 70;draught 20;deep 0 0 10;high 0 10 0 0 0 0 0 0 0 0 0 0;");
        due(19, "from", x.from(0), 7);
        due(19, "latest", x.start(0), 68);
        due(19, "quickest, the first", x.start(1), 5);
        due(19, "minutes", x.start(2), 2);
        for (int bad : new int[] {-1, 3, FAR[0], FAR[1]}) {
            due(19, "start " + bad, x.start(bad), BAD);
        }
    }

    private static void days() {
        UpRiver x = river("reaches 2;point 8;beat 5;dark 6;draught 20;deep 0 0 10;high 0 10 0 0 0 0 0 0 0 0 0 0;");
        due(20, "day 0: up in 7", x.days(1, 55, 0), 0);
        due(20, "none", x.days(1, 55, 1), NONE);
        due(20, "day 1: phase 1 from 0 to 4", x.days(2, 55, 0), 1);
        due(20, "the first", x.days(2, 55, 1), 1);
        due(20, "day 1: from 4, up in 6; day 2: from 3", x.days(3, 59, 0), 2);
        due(20, "later and later", x.days(11, 1, 0), 0);
        due(20, "fourteen: day 1 and day 13", x.days(14, 55, 0), 2);
        due(20, "the same days", x.days(14, 0, 0), 0);
        int[][] bad = {{0, 0, 0}, {15, 0, 0}, {1, -1, 0}, {1, 100, 0}, {1, 0, -1}, {1, 0, 2}, {FAR[0], 0, 0}, {FAR[1], 0, 0}};
        for (int[] b : bad) {
            due(20, "bad", x.days(b[0], b[1], b[2]), BAD);
        }
        daysOfWaterAndStream();
        due(20, "all", new UpRiver().days(14, 99, 0), 14);
        due(20, "all", new UpRiver().days(14, 99, 1), 0);
    }

    /** On the second day phases begin 57 later: minute 0 is what 3 was. */
    private static void daysOfWaterAndStream() {
        UpRiver x = river("reaches 2;beat 5;draught 20;dark 50;bank 0 0 1;deep 0 1 15;high 5 0 0 0 0 0 0 0 0 0 0 0;");
        due(20, "there in time both days", x.days(2, 57, 0), 2);
        due(20, "not on the third, which is what 6 was, nor the fourth", x.days(4, 57, 0), 2);
        due(20, "not on the day that is what 4 was", x.days(2, 56, 0), 1);
        // She must turn on the shoal, and there is water from minute 10 to 14 on the second day.
        x = river("reaches 2;beat 5;draught 20;dark 17;bank 0 0 1;deep 0 1 15;deep 1 2 0;high 5 0 0 0 0 0 0 0 0 0 0 0;");
        due(20, "turned while there is water", x.days(2, 10, 0), 2);
        due(20, "a minute too late", x.days(2, 11, 0), 1);
        x = river("reaches 2;beat 5;point 1;dark 4;tide 9 9 9 9 9 9 9 9 9 9 9 18;bank 0 4 8;bank 1 4 8;");
        due(20, "no stream", x.days(1, 5, 0), 0);
        due(20, "on the second minute 0 is what 55 was", x.days(2, 5, 0), 1);
        due(20, "the first", x.days(3, 5, 1), 1);
    }

    // ---- a skipper

    private static void skipper() {
        UpRiver x = new UpRiver();
        due(21, "up", x.skipper(0, 0, 0), 14);
        due(21, "turns", x.skipper(0, 0, 1), 1);
        due(21, "sailed", x.skipper(0, 0, 2), 12);
        due(21, "margin 14", x.skipper(14, 0, 0), 14);
        due(21, "margin 15: never", x.skipper(15, 0, 0), NONE);
        due(21, "he turns to and fro", x.skipper(15, 0, 1), 150);
        due(21, "he never sails", x.skipper(15, 0, 2), 0);
        due(21, "a question alone", x.now(0) + x.now(1) + x.now(6), 0);
        x.sail(8);
        x.turn();
        due(21, "from where she is", x.skipper(0, 0, 0), 14);
        due(21, "turns from now on", x.skipper(0, 0, 1), 0);
        due(21, "sailed from now on", x.skipper(0, 0, 2), 4);
        int[][] bad = {{-1, 0, 0}, {21, 0, 0}, {0, -1, 0}, {0, 2, 0}, {0, 0, -1}, {0, 0, 3}, {FAR[0], 0, 0}, {FAR[1], 0, 0}};
        for (int[] b : bad) {
            due(21, "bad", x.skipper(b[0], b[1], b[2]), BAD);
        }
        x.sail(4);
        due(21, "up", x.skipper(0, 0, 0), STATE);
        due(21, "bad is first", x.skipper(21, 0, 0), BAD);
        // The shoal at lane 2: a turn in lane 1, two sailed, a turn in lane 0, and so on.
        x = river("reaches 2;deep 0 2 7;deep 1 2 7;");
        due(21, "over the shoal", x.skipper(1, 0, 0), 4);
        due(21, "not over the shoal", x.skipper(2, 0, 0), 10);
        due(21, "turns", x.skipper(2, 0, 1), 3);
        // Aground till minute 30: he waits.
        x = river("reaches 2;draught 20;deep 0 0 19;high 0 1 0 0 0 0 0 0 0 0 0 0;");
        due(21, "waits for water", x.skipper(0, 0, 0), 34);
        // Lane 1 is dry in reach 1, which he does not see from reach 0: he waits before it for ever.
        x = river("reaches 2;point 8;deep 1 1 0;");
        due(21, "can not", x.skipper(0, 0, 0), NONE);
        due(21, "can not: no turn", x.skipper(0, 0, 1), 0);
        x.set(0, 0, 0, 300);
        due(21, "no minute left", x.skipper(0, 0, 0), NONE);
    }

    private static void skipperWithEyes() {
        UpRiver x = river("reaches 2;wind 0 0;");
        due(21, "no eyes", x.skipper(0, 0, 0), 6);
        due(21, "eyes", x.skipper(0, 1, 0), 12);
        due(21, "turns", x.skipper(0, 1, 1), 4);
        due(21, "sailed", x.skipper(0, 1, 2), 4);
        due(23, "he loses", x.loses(0, 1), 6);
        due(23, "he loses nothing", x.loses(0, 0), 0);
        due(22, "with eyes", x.best(1, 1), 12);
        x = river("reaches 2;wind 0 2;");
        due(21, "the better board already", x.skipper(0, 1, 1), 0);
    }

    private static void best() {
        UpRiver x = new UpRiver();
        due(22, "of several the least", x.best(0, 0), 0);
        due(22, "minute", x.best(0, 1), 14);
        // Without a margin he sails on to lane 8 of reach 0 and is stopped by the bank of reach 1; with one he turns before.
        x = river("reaches 2;point 1;shift 0;bank 1 0 6;deep 0 7 8;");
        due(22, "a margin is better", x.best(0, 0), 3);
        due(22, "up", x.best(0, 1), x.skipper(3, 0, 0));
        due(22, "and without", x.skipper(2, 0, 0), NONE);
        x = river("draught 20;deep 0 0 0;");
        due(22, "none", x.best(0, 0), NONE);
        due(22, "none", x.best(1, 1), NONE);
        int[][] bad = {{-1, 0}, {2, 0}, {0, -1}, {0, 2}, {FAR[0], 0}, {0, FAR[1]}};
        for (int[] b : bad) {
            due(22, "bad", x.best(b[0], b[1]), BAD);
        }
        x = river("reaches 2;");
        x.sail(4);
        due(22, "up", x.best(0, 0), STATE);
        due(22, "bad is first", x.best(2, 0), BAD);
    }

    private static void loses() {
        UpRiver x = river("reaches 2;deep 0 2 7;deep 1 2 7;");
        due(23, "loses", x.loses(2, 0), 6);
        due(23, "loses nothing", x.loses(1, 0), 0);
        due(23, "never up", x.loses(20, 0), NONE);
        int[][] bad = {{-1, 0}, {21, 0}, {0, -1}, {0, 2}, {FAR[0], 0}, {FAR[1], 0}};
        for (int[] b : bad) {
            due(23, "bad", x.loses(b[0], b[1]), BAD);
        }
        x.sail(4);
        due(23, "up", x.loses(0, 0), STATE);
        due(23, "bad is first", x.loses(0, 2), BAD);
    }

    // ---- a narrow place, a lead

    private static void narrow() {
        UpRiver x = river(twelve("tide", "0") + "lee 0;wind 1 0;");
        int[][] want = {{9, 2}, {0, 2}, {-1, 2}, {-2, 4}, {-3, 8}, {-4, NONE}, {-9, NONE}, {10, BAD}, {-10, BAD}, {FAR[0], BAD}, {FAR[1], BAD}};
        for (int[] w : want) {
            due(24, "narrow " + w[0], x.narrow(w[0]), w[1]);
        }
        due(24, "just nine", river("point 8;turn 9;").narrow(-3), 7);
        due(24, "nine", river("point 8;turn 6;").narrow(-4), 8);
        due(24, "nine lanes", river("point 2;turn 7;").narrow(-1), 9);
        due(24, "not in nine", river("point 2;turn 8;").narrow(-1), NONE);
    }

    private static void lead() {
        UpRiver x = new UpRiver();
        int[][] want = {{6, 1, 1, 1, 1, 3}, {5, 2, 1, 1, 1, 2}, {4, 1, 1, 1, 1, 1}, {7, 1, 1, 1, 0, 1}, {0, 0, 0, 9, 1, 1},
            {30, 9, 9, 9, 0, 1}, {6, 9, 9, 9, 1, 3}, {5, 1, 9, 8, 17, 18}, {6, 3, 0, 0, 0, 1}, {4, 0, 6, 4, 1, 1}, {5, 3, 6, 3, 3, 4}};
        for (int[] w : want) {
            due(25, "numerator at " + w[0], x.lead(w[0], w[1], w[2], w[3], 0), w[4]);
            due(25, "denominator at " + w[0], x.lead(w[0], w[1], w[2], w[3], 1), w[5]);
        }
        int[][] bad = {{-1, 1, 1, 1, 0}, {31, 1, 1, 1, 0}, {6, -1, 1, 1, 0}, {6, 10, 1, 1, 0}, {6, 1, -1, 1, 0}, {6, 1, 10, 1, 0},
            {6, 1, 1, -1, 0}, {6, 1, 1, 10, 0}, {6, 0, 0, 0, 0}, {6, 1, 1, 1, -1}, {6, 1, 1, 1, 2}, {FAR[1], 1, 1, 1, 0}};
        for (int[] b : bad) {
            due(25, "bad", x.lead(b[0], b[1], b[2], b[3], b[4]), BAD);
        }
    }

    private static void near() {
        UpRiver x = new UpRiver();
        int[][] want = {{1, 1, 1, 1, 3, 6}, {1, 1, 1, 0, 1, 7}, {1, 1, 1, 2, 3, 5}, {1, 1, 1, 1, 1, 0}, {1, 0, 0, 0, 1, 5},
            {0, 1, 0, 0, 99, 6}, {0, 0, 1, 0, 1, 7}, {1, 1, 1, 32, 99, 7}, {1, 1, 1, 33, 99, 6}, {9, 9, 9, 99, 1, 0}};
        for (int[] w : want) {
            due(26, "near", x.near(w[0], w[1], w[2], w[3], w[4]), w[5]);
        }
        int[][] bad = {{0, 0, 0, 1, 1}, {-1, 1, 1, 1, 1}, {10, 1, 1, 1, 1}, {1, -1, 1, 1, 1}, {1, 10, 1, 1, 1}, {1, 1, -1, 1, 1},
            {1, 1, 10, 1, 1}, {1, 1, 1, -1, 1}, {1, 1, 1, 100, 1}, {1, 1, 1, 1, 0}, {1, 1, 1, 1, -1}, {1, 1, 1, 1, 100}};
        for (int[] b : bad) {
            due(26, "bad", x.near(b[0], b[1], b[2], b[3], b[4]), BAD);
        }
    }

    // ---- a log, a wind that swings, a barge

    private static void logged() {
        UpRiver x = river("reaches 3;");
        int[][] bad = {{-1, 0}, {4, 0}, {0, -1}, {0, 301}, {FAR[0], 0}, {FAR[1], 0}};
        for (int[] b : bad) {
            due(27, "bad", x.logged(b[0], b[1]), BAD);
        }
        due(27, "logged", x.logged(0, 0), 1);
        due(27, "not above", x.logged(0, 5), BAD);
        due(27, "not later", x.logged(1, 0), BAD);
        due(27, "logged", x.logged(1, 1), 2);
        due(27, "below", x.logged(0, 9), BAD);
        due(27, "the top", x.logged(3, 300), 3);
        due(27, "how many", x.count(0), 3);
    }

    private static void lost() {
        UpRiver x = new UpRiver();
        due(28, "nothing", x.lost(0), -1001);
        x.logged(0, 0);
        due(28, "no stretch", x.lost(0), -1001);
        due(28, "no stretch", x.lost(1), -1001);
        x.logged(1, 5);
        due(28, "three late", x.lost(0), 3);
        x.logged(3, 9);
        due(28, "the most", x.lost(0), 3);
        due(28, "where", x.lost(1), 0);
        x.logged(4, 14);
        due(28, "of several the first", x.lost(1), 0);
        x.logged(6, 22);
        due(28, "the last one", x.lost(0), 4);
        due(28, "where", x.lost(1), 3);
        for (int bad : new int[] {-1, 2, FAR[0], FAR[1]}) {
            due(28, "bad", x.lost(bad), -1000);
        }
        x = new UpRiver();
        x.logged(0, 0);
        x.logged(5, 1);
        due(28, "sooner than she could", x.lost(0), -11);
        x = new UpRiver();
        x.logged(0, 299);
        x.logged(1, 300);
        due(28, "can not be done by 300", x.lost(0), -1001);
        due(28, "can not be done by 300", x.lost(1), -1001);
        x = new UpRiver();
        x.logged(0, 0);
        x.logged(1, 298);
        x.logged(2, 299);
        x.logged(3, 300);
        due(28, "what can not be done is left out", x.lost(0), 296);
        x = river("reaches 2;beat 5;draught 20;bank 0 0 2;deep 0 0 0;deep 0 1 15;deep 0 2 0;high 0 5 5 0 0 0 0 0 0 0 0 0;");
        x.logged(0, 0);
        x.logged(1, 40);
        due(28, "afloat in no lane then", x.lost(0), -1001);
    }

    private static void swings() {
        UpRiver x = new UpRiver();
        due(31, "none judged", x.judge(0), NONE);
        for (int bad : new int[] {-1, 3, FAR[0], FAR[1]}) {
            due(29, "swing " + bad, x.swing(bad), BAD);
            due(31, "judge " + bad, x.judge(bad), BAD);
        }
        due(29, "swing", x.swing(0), 1);
        due(31, "none judged", x.judge(2), NONE);
        due(30, "none", x.judged(1), 0);
        x.swing(1);
        x.swing(1);
        due(30, "by 1", x.judged(1), 1);
        due(30, "by 2, a half up", x.judged(2), 1);
        due(30, "by 3", x.judged(3), 0);
        due(31, "n", x.judge(0), 2);
        due(31, "right", x.judge(1), 1);
        due(31, "all", x.judge(2), 1);
        for (int bad : new int[] {0, -1, 21, FAR[0], FAR[1]}) {
            due(30, "judged " + bad, x.judged(bad), BAD);
        }
        for (int i = 4; i <= 40; i++) {
            due(29, "swing", x.swing(1), i);
        }
        due(29, "full", x.swing(1), FULL);
        due(29, "bad is first", x.swing(3), BAD);
        due(30, "by 1", x.judged(1), 38);
        due(30, "by 20", x.judged(20), 20);
        due(31, "the least of several", x.judge(0), 2);
        due(31, "right", x.judge(1), 38);
        due(31, "all", x.judge(2), 38);
        x.keep(0);
        due(34, "forty are kept", x.back(0) + x.count(1), 40);
        x = new UpRiver();
        x.swing(0);
        x.swing(2);
        due(31, "never right", x.judge(0) * 100 + x.judge(1) * 10 + x.judge(2), 101);
        x.swing(1);
        due(30, "mean of 0 and 2", x.judged(2), 1);
        x.swing(2);
        due(30, "1.5 is 2", x.judged(2), 2);
        x = new UpRiver();
        for (int i = 0; i < 21; i++) {
            x.swing(i < 9 ? 0 : i < 20 ? 2 : 1);
        }
        due(30, "the mean of twenty", x.judged(20), 1);
        due(31, "twenty is the best", x.judge(0) * 100 + x.judge(1) * 10 + x.judge(2), 2011);
        x = new UpRiver();
        int[] winds = {0, 0, 1, 0, 0, 1, 0};
        for (int v : winds) {
            x.swing(v);
        }
        due(30, "a third is 0", x.judged(3), 3);
        due(31, "3 of 4 by 3, 1 of 1 by 6", x.judge(0), 6);
    }

    private static void barge() {
        UpRiver x = new UpRiver();
        due(32, "met", x.barge(6, 4, 0, 0, 0), 6);
        due(32, "the reach", x.barge(6, 4, 0, 0, 1), 3);
        due(32, "as she comes", x.barge(8, 7, 0, 0, 0), 8);
        due(32, "while she turns", x.barge(8, 8, 0, 0, 0), 9);
        due(32, "as she leaves", x.barge(8, 9, 0, 0, 0), 10);
        due(32, "too late", x.barge(8, 10, 0, 0, 0), NONE);
        due(32, "too early", x.barge(8, 6, 0, 0, 1), NONE);
        due(32, "at the beginning it is high up", x.barge(0, 0, 0, 0, 0), NONE);
        x.set(40, 3, 0, 0);
        due(32, "at the beginning", x.barge(3, 0, 0, 0, 0), 0);
        due(32, "the reach", x.barge(3, 0, 0, 0, 1), 5);
        x.set(0, 0, 0, 300);
        due(32, "in 300", x.barge(0, 295, 0, 0, 0), 300);
        due(32, "reach 0", x.barge(0, 295, 0, 0, 1), 0);
        due(32, "behind 300", x.barge(0, 296, 0, 0, 0), NONE);
        due(32, "gone below reach 0", x.barge(0, 294, 0, 0, 0), NONE);
        int[][] bad = {{-1, 0, 0, 0, 0}, {9, 0, 0, 0, 0}, {0, -1, 0, 0, 0}, {0, 301, 0, 0, 0}, {0, 0, -1, 0, 0}, {0, 0, 21, 0, 0},
            {0, 0, 0, -1, 0}, {0, 0, 0, 2, 0}, {0, 0, 0, 0, -1}, {0, 0, 0, 0, 2}, {FAR[1], 0, 0, 0, 0}, {0, FAR[0], 0, 0, 0}};
        for (int[] b : bad) {
            due(32, "bad", x.barge(b[0], b[1], b[2], b[3], b[4]), BAD);
        }
        x.set(47, 0, 0, 0);
        x.sail(1);
        due(32, "up", x.barge(0, 0, 0, 0, 0), STATE);
        due(32, "bad is first", x.barge(9, 0, 0, 0, 0), BAD);
        // With a margin she stays in lane 0 and turns for ever.
        x = river("reaches 2;");
        due(32, "by his margin", x.barge(0, 200, 15, 0, 0), 201);
        due(32, "else she is up", x.barge(0, 200, 0, 0, 0), NONE);
        // With eyes she turns twice at the beginning and lies four minutes in lane 0.
        x = river("reaches 2;wind 0 0;");
        due(32, "with eyes", x.barge(0, 3, 0, 1, 0), 4);
        due(32, "without", x.barge(0, 3, 0, 0, 0), NONE);
    }

    // ---- images, sheets

    private static void images() {
        UpRiver x = new UpRiver();
        for (int bad : new int[] {-1, 2, FAR[0], FAR[1]}) {
            due(33, "keep " + bad, x.keep(bad), BAD);
            due(34, "back " + bad, x.back(bad), BAD);
        }
        x.sail(8);
        x.turn();
        x.logged(0, 3);
        x.swing(2);
        x.swing(2);
        due(34, "none", x.back(1), STATE);
        due(33, "keep", x.keep(1), 0);
        due(33, "images", x.count(4), 1);
        due(34, "none", x.back(0), STATE);
        x.sail(1);
        x.turn();
        x.logged(1, 9);
        x.swing(0);
        due(33, "keep", x.keep(0), 0);
        due(34, "back", x.back(1), 10);
        int[] want = {10, 32, 8, 1, 1, 0, 1, 8};
        for (int what = 0; what < 8; what++) {
            due(34, "now " + what, x.now(what), want[what]);
        }
        due(34, "logged", x.count(0), 1);
        due(34, "swings", x.count(1), 2);
        due(34, "the swings themselves", x.judged(1), 1);
        x.swing(1);
        x.logged(2, 5);
        due(34, "the other", x.back(0), 13);
        due(34, "logged", x.count(0), 2);
        due(34, "the logged themselves", x.lost(0), 4);
        due(34, "swings", x.judged(1), 1);
        due(34, "turns", x.now(6), 2);
        due(34, "an image stays", x.back(1), 10);
        due(34, "an image is its own", x.count(0) * 10 + x.count(1), 12);
        x.anchor(5);
        due(33, "again", x.keep(1), 1);
        x.anchor(5);
        due(34, "the newer", x.back(1), 15);
        x.sheet(0, 0, 3);
        x.back(0);
        due(34, "sheets are in no image", x.count(6), 3);
        imagesHoldTheirOwn();
    }

    private static void imagesHoldTheirOwn() {
        UpRiver x = new UpRiver();
        x.keep(0);
        int[][] first = {{0, 0}, {1, 5}, {2, 9}};
        for (int[] f : first) {
            x.logged(f[0], f[1]);
            x.swing(1);
        }
        x.keep(1);
        x.back(0);
        due(34, "nothing yet", x.count(0) + x.count(1), 0);
        for (int i = 0; i < 3; i++) {
            x.logged(3 + i, 100 + i);
            x.swing(i == 1 ? 2 : 0);
        }
        due(30, "others", x.judged(1), 0);
        x.back(1);
        due(34, "the swings of the image", x.judged(1), 2);
        due(34, "the logged of the image", x.lost(0), 3);
        due(34, "where", x.lost(1), 0);
        due(34, "the latest logged is the image's", x.logged(3, 10), 4);
    }

    private static void sheets() {
        UpRiver x = new UpRiver();
        due(35, "below 0", x.sheet(0, 0, -1), -14);
        due(35, "far below 0", x.sheet(3, 2, FAR[0]), -14);
        due(35, "still nothing", x.count(6), NONE);
        int[][] bad = {{-1, 0, 0}, {4, 0, 0}, {0, -1, 0}, {0, 3, 0}, {0, 0, 41}, {-1, 0, -1}, {0, 3, -1}, {FAR[1], 0, 0}, {0, FAR[0], 0}, {0, 0, FAR[1]}};
        for (int[] b : bad) {
            due(35, "bad", x.sheet(b[0], b[1], b[2]), BAD);
        }
        due(35, "of 40", x.sheet(0, 2, 40), 1);
        due(35, "cells", x.count(6), 40);
        due(36, "last", x.lay(0, 39, 1), 1);
        due(36, "beyond", x.lay(0, 40, 1), -12);
        due(35, "of none", x.sheet(0, 0, 0), 1);
        due(35, "cells", x.count(6), 0);
        due(36, "no cell", x.lay(0, 0, 0), -12);
        due(36, "nothing", x.lay(1, 0, 0), -11);
        due(36, "nothing, whatever the cell", x.lay(1, -1, 0), -11);
        due(36, "bad", x.lay(-1, 0, 0), BAD);
        due(36, "bad", x.lay(4, 0, 0), BAD);
        x.sheet(0, 0, 2);
        due(36, "below", x.lay(0, -1, 0), -12);
        due(36, "beyond", x.lay(0, 2, 0), -12);
        due(36, "far", x.lay(0, FAR[1], 0) + x.lay(0, FAR[0], 0), -24);
        x.lay(0, 0, 1);
        x.lay(0, 1, 9);
        due(36, "laid", x.read(0, 0, 0, 1), 1);
        x.sheet(0, 0, 2);
        due(35, "a new row is of 0", x.read(0, 0, 0, 1), -20);
        x.sheet(0, 0, -5);
        due(35, "refused: the old one stays", x.count(6), 2);
        x = new UpRiver();
        x.sheet(1, 2, 3);
        x.lay(1, 0, 5);
        x.lay(1, 1, 50);
        x.sheet(1, 2, 2);
        due(35, "of 0", x.read(1, 2, 0, 1), 1);
        due(35, "0 and 0 was read", x.logged(1, 1), 2);
    }

    /** What a cell holds is seen by what it logs: 256 and 3 in a byte is 3. */
    private static void lowestBits() {
        int[] width = {256, 65536};
        for (int lane = 0; lane < 2; lane++) {
            UpRiver x = new UpRiver();
            x.sheet(2, lane, 4);
            x.lay(2, 0, 2 * width[lane] + 3);
            x.lay(2, 1, -width[lane] + 7);
            due(36, "lowest bits", x.read(2, lane, 0, 1), 1);
            x.lay(2, 2, 4);
            x.lay(2, 3, width[lane] / 2);
            due(36, "with a sign", x.read(2, lane, 2, 1), -20);
        }
        UpRiver x = new UpRiver();
        x.sheet(2, 2, 2);
        x.lay(2, 0, 65536 + 3);
        due(36, "an int is whole", x.read(2, 2, 0, 1), -20);
        x.sheet(2, 0, 2);
        x.lay(2, 0, 3);
        x.lay(2, 1, 200);
        due(36, "200 is none in a byte", x.read(2, 0, 0, 1), -20);
        x.sheet(2, 1, 2);
        x.lay(2, 0, 3);
        x.lay(2, 1, 200);
        due(36, "200 is one in a short", x.read(2, 1, 0, 1), 1);
    }

    private static void read() {
        lowestBits();
        UpRiver x = new UpRiver();
        int[][] bad = {{-1, 0, 0, 1}, {4, 0, 0, 1}, {0, -1, 0, 1}, {0, 3, 0, 1}, {0, 0, 0, -1}, {0, 0, 0, 13}, {FAR[0], 0, 0, 1}, {0, 0, 0, FAR[1]}};
        for (int[] b : bad) {
            due(37, "bad", x.read(b[0], b[1], b[2], b[3]), BAD);
        }
        due(37, "nothing", x.read(0, 0, 0, 1), 0);
        due(38, "null", x.torn(), 1);
        due(37, "bad", x.read(0, 0, 0, 13), BAD);
        due(38, "a refused one leaves it", x.torn(), 1);
        due(37, "none of nothing", x.read(0, 0, 0, 0), 0);
        due(38, "no fault", x.torn(), 0);
        x.sheet(0, 1, 7);
        int[] cells = {9, 0, 2, 1, 5, 3, 12};
        for (int i = 0; i < cells.length; i++) {
            x.lay(0, i, cells[i]);
        }
        due(37, "another lane", x.read(0, 2, 0, 1), 0);
        due(38, "cast", x.torn(), 3);
        due(37, "none of another lane", x.read(0, 2, 0, 0), 0);
        due(38, "no fault", x.torn(), 0);
        due(37, "below", x.read(0, 1, -1, 1), 0);
        due(38, "index", x.torn(), 2);
        due(37, "far", x.read(0, 1, FAR[1], 2) + x.read(0, 1, FAR[0], 2), 0);
        due(38, "index", x.torn(), 2);
        due(37, "the first is refused", x.read(0, 1, 0, 2), -20);
        due(38, "left", x.torn(), 2);
        due(37, "three of four come", x.read(0, 1, 1, 4), 3);
        due(38, "index", x.torn(), 2);
        due(37, "logged", x.count(0), 3);
        due(37, "as by logged()", x.lost(1), 1);
        x = new UpRiver();
        x.sheet(1, 0, 6);
        int[] less = {1, 5, 2, 9, 3, 9};
        for (int i = 0; i < less.length; i++) {
            x.lay(1, i, less[i]);
        }
        x.logged(0, 1);
        due(37, "the third is refused", x.read(1, 0, 0, 3), -22);
        due(37, "none came", x.count(0), 1);
        due(38, "no fault yet", x.torn(), 0);
        due(37, "half a one is not whole", x.read(1, 0, 5, 1), 0);
        due(38, "index", x.torn(), 2);
        due(37, "two", x.read(1, 0, 0, 2), 2);
        due(38, "none", x.torn(), 0);
        due(37, "logged", x.count(0), 3);
        due(37, "behind those that there are", x.read(1, 0, 2, 1), -20);
    }

    private static void count() {
        UpRiver x = river("lee 0;lee 3;lee 5;eddy 0 0;eddy 5 8;bank 5 0 2;");
        x.logged(0, 0);
        x.swing(1);
        x.swing(1);
        x.swing(1);
        x.swing(1);
        x.keep(0);
        x.keep(1);
        x.keep(1);
        x.feed(0);
        x.sheet(0, 1, 17);
        x.sheet(1, 1, 18);
        int[] want = {1, 4, 2, 3, 2, 8, 17};
        for (int what = 0; what < want.length; what++) {
            due(39, "count " + what, x.count(what), want[what]);
        }
        for (int bad : new int[] {-1, 7, FAR[0], FAR[1]}) {
            due(39, "count " + bad, x.count(bad), BAD);
        }
        due(39, "no sheet", new UpRiver().count(6), NONE);
    }
}
