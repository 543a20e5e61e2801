/** The edges of a narrow place, a lead, a log, a wind that swings and a barge: promises 24 to 32 and their terms. */
public final class LogEdgesTest {
    public static void main(String[] args) {
        all();
        Checks.finish();
    }

    static void all() {
        narrow();
        narrowRefused();
        leadTerms();
        fractions();
        lead();
        near();
        nearAlways();
        logged();
        loggedMany();
        loggedLowerEnd();
        lostFromWhere();
        lostTillWhere();
        lostMost();
        lostRefused();
        swing();
        swingsBehindAnother();
        judgedNearest();
        judged();
        judge();
        judgeRefused();
        bargeComesDown();
        bargeWhileSheTurns();
        bargeFirst();
        bargeReach();
        bargeRefused();
    }

    // ---- a narrow place, a lead

    private static void narrow() {
        Checks.sentence("24.fewest", "The fewest LANES (2 to 9) between banks in which she gains by a BOARD and a TURN, FLOW being f (-9 to 9) everywhere");
        UpRiver x = new UpRiver();
        int[] byFlow = {2, 4, 8, Checks.NONE, Checks.NONE, Checks.NONE, Checks.NONE, Checks.NONE, Checks.NONE};
        for (int f = 1; f <= 9; f++) {
            Checks.due("against " + f, x.narrow(-f), byFlow[f - 1]);
            Checks.due("with " + f, x.narrow(f), 2);
        }
        Checks.due("without", x.narrow(0), 2);
        Checks.due("a gain of 0 is none: 2 and 2, less 4", x.narrow(-2), 4);
        Checks.due("nine lanes: 8, less 7", Checks.river("point 2;turn 7;").narrow(-1), 9);
        Checks.due("not in nine: 8, less 8", Checks.river("point 2;turn 8;").narrow(-1), Checks.NONE);
        Checks.due("two lanes: 7, less 6", Checks.river("point 8;turn 6;").narrow(-1), 2);
        Checks.due("three lanes: 7, less 7", Checks.river("point 8;turn 7;").narrow(-1), 3);
        Checks.sentence("24.calm", "WIND 1, no LEE: from one side to the other.");
        x = Checks.river("reaches 2;wind 0 0;wind 1 0;lee 0;lee 1;bank 0 4 4;bank 1 4 4;" + Checks.twelve("tide", 0));
        Checks.due("whatever the river is", x.narrow(-2), 4);
        x = Checks.river("reaches 2;wind 0 2;wind 1 2;shift 8;");
        Checks.due("whatever the wind is", x.narrow(-3), 8);
    }

    private static void narrowRefused() {
        Checks.sentence("24.refused", "BAD; NONE: in none.");
        UpRiver x = new UpRiver();
        Checks.allAre(Checks.BAD, "narrow", x::narrow, -10, 10, Checks.LEAST, Checks.MOST);
        Checks.due("no gain by the board", x.narrow(-4), Checks.NONE);
        Checks.due("the most against her", x.narrow(-9), Checks.NONE);
        Checks.due("point 1", Checks.river("point 1;turn 1;").narrow(-1), Checks.NONE);
    }

    private static void leadTerms() {
        Checks.sentence("T2.lead", "THE LEAD shows a depth off by -1, 0, 1 with told chances (the depth is what it shows, less what it is off).");
        UpRiver x = new UpRiver();
        int[][] want = {{4, 1, 1, 1}, {5, 0, 1, 1}, {6, 0, 0, 1}, {7, 0, 0, 0}};
        for (int[] w : want) {
            Checks.due("shows " + w[0] + ", off by -1", x.lead(w[0], 9, 0, 0, 0), w[1]);
            Checks.due("shows " + w[0] + ", off by 0", x.lead(w[0], 0, 9, 0, 0), w[2]);
            Checks.due("shows " + w[0] + ", off by 1", x.lead(w[0], 0, 0, 9, 0), w[3]);
        }
        x = Checks.river("draught 1;");
        Checks.due("shows 0, off by -1: there is 1", x.lead(0, 1, 0, 0, 0), 0);
        Checks.due("shows 0, off by 1: there is less", x.lead(0, 0, 0, 1, 0), 1);
        Checks.due("shows 1, off by 1: there is 0", x.lead(1, 0, 0, 1, 0), 1);
        Checks.due("shows 2, off by 1: there is 1", x.lead(2, 0, 0, 1, 0), 0);
    }

    private static void fractions() {
        Checks.sentence("T.fractions", "Fractions are in lowest terms, told as 0 the numerator, 1 the denominator, which is above 0 (0 is 0 by 1).");
        UpRiver x = new UpRiver();
        int[][] want = {{6, 9, 9, 9, 1, 3}, {5, 9, 9, 9, 2, 3}, {4, 9, 9, 9, 1, 1}, {7, 9, 9, 9, 0, 1}, {7, 1, 0, 0, 0, 1}, {6, 3, 4, 1, 1, 8},
            {6, 6, 4, 6, 3, 8}, {5, 2, 4, 4, 4, 5}, {6, 0, 0, 1, 1, 1}, {5, 1, 9, 8, 17, 18}, {6, 9, 8, 8, 8, 25}};
        for (int[] w : want) {
            Checks.due("numerator", x.lead(w[0], w[1], w[2], w[3], 0), w[4]);
            Checks.due("denominator", x.lead(w[0], w[1], w[2], w[3], 1), w[5]);
        }
    }

    private static void lead() {
        Checks.sentence("25.less", "By THE LEAD that shows r (0 to 30), off by -1, 0, 1 with chances a, b, c (0 to 9, not all 0): that there is less than draught: 0, 1.");
        UpRiver x = Checks.river("draught 20;");
        Checks.due("0 is less", x.lead(0, 9, 9, 9, 0), 1);
        Checks.due("30 is not", x.lead(30, 9, 9, 9, 0), 0);
        Checks.due("20 is not less than 20", x.lead(20, 0, 1, 0, 0), 0);
        Checks.due("19 is less than 20", x.lead(19, 0, 1, 0, 0), 1);
        Checks.due("one chance is enough", x.lead(19, 0, 0, 1, 1), 1);
        Checks.sentence("25.bad", "that there is less than draught: 0, 1. BAD.");
        Checks.allAre(Checks.BAD, "r", r -> x.lead(r, 1, 1, 1, 0), -1, 31, Checks.LEAST, Checks.MOST);
        Checks.allAre(Checks.BAD, "a", a -> x.lead(6, a, 1, 1, 0), -1, 10, Checks.LEAST, Checks.MOST);
        Checks.allAre(Checks.BAD, "b", b -> x.lead(6, 1, b, 1, 0), -1, 10, Checks.LEAST, Checks.MOST);
        Checks.allAre(Checks.BAD, "c", c -> x.lead(6, 1, 1, c, 0), -1, 10, Checks.LEAST, Checks.MOST);
        Checks.allAre(Checks.BAD, "what", what -> x.lead(6, 1, 1, 1, what), -1, 2, Checks.LEAST, Checks.MOST);
        Checks.due("all 0", x.lead(6, 0, 0, 0, 0), Checks.BAD);
        Checks.due("all 0", x.lead(6, 0, 0, 0, 1), Checks.BAD);
        Checks.due("two below 0 and one above", x.lead(6, -1, -1, 9, 0), Checks.BAD);
    }

    private static void near() {
        Checks.sentence("26.near", "The least r (0 to 30) from which on that is no more than x by y (0 to 99, 1 to 99).");
        UpRiver x = new UpRiver();
        int[][] want = {{1, 1, 1, 0, 1, 7}, {1, 1, 1, 0, 99, 7}, {1, 1, 1, 1, 3, 6}, {1, 1, 1, 32, 99, 7}, {1, 1, 1, 33, 99, 6}, {1, 1, 1, 34, 99, 6},
            {1, 1, 1, 65, 99, 6}, {1, 1, 1, 66, 99, 5}, {1, 1, 1, 98, 99, 5}, {1, 1, 1, 99, 99, 0}, {1, 1, 1, 1, 1, 0}, {9, 9, 9, 99, 1, 0},
            {1, 0, 0, 0, 1, 5}, {0, 1, 0, 0, 1, 6}, {0, 0, 1, 0, 1, 7}, {0, 0, 9, 98, 99, 7}, {9, 0, 0, 98, 99, 5}};
        for (int[] w : want) {
            Checks.due("near", x.near(w[0], w[1], w[2], w[3], w[4]), w[5]);
        }
        Checks.due("draught 20", Checks.river("draught 20;").near(1, 1, 1, 0, 1), 21);
        Checks.due("draught 1", Checks.river("draught 1;").near(1, 0, 0, 0, 1), 0);
        Checks.due("draught 1", Checks.river("draught 1;").near(0, 0, 1, 0, 1), 2);
        Checks.sentence("26.bad", "no more than x by y (0 to 99, 1 to 99). BAD; NONE.");
        Checks.allAre(Checks.BAD, "a", a -> x.near(a, 1, 1, 1, 1), -1, 10, Checks.LEAST, Checks.MOST);
        Checks.allAre(Checks.BAD, "b", b -> x.near(1, b, 1, 1, 1), -1, 10, Checks.LEAST, Checks.MOST);
        Checks.allAre(Checks.BAD, "c", c -> x.near(1, 1, c, 1, 1), -1, 10, Checks.LEAST, Checks.MOST);
        Checks.allAre(Checks.BAD, "x", v -> x.near(1, 1, 1, v, 1), -1, 100, Checks.LEAST, Checks.MOST);
        Checks.allAre(Checks.BAD, "y", v -> x.near(1, 1, 1, 1, v), 0, -1, 100, Checks.LEAST, Checks.MOST);
        Checks.due("all 0", x.near(0, 0, 0, 1, 1), Checks.BAD);
    }

    /** NONE is told, but the greatest draught, 20, is less than 30 by more than the lead can be off: there is always one. */
    private static void nearAlways() {
        Checks.sentence("26.none", "The least r (0 to 30) from which on that is no more than x by y (0 to 99, 1 to 99). BAD; NONE.");
        for (int draught = 1; draught <= 20; draught++) {
            UpRiver x = Checks.river("draught " + draught + ";");
            Checks.due("by -1 alone", x.near(9, 0, 0, 0, 99), draught - 1);
            Checks.due("by 0 alone", x.near(0, 9, 0, 0, 99), draught);
            Checks.due("by 1 alone", x.near(0, 0, 9, 0, 99), draught + 1);
            Checks.due("by 1, too", x.near(9, 9, 1, 0, 99), draught + 1);
        }
    }

    // ---- a log

    private static UpRiver logOf(String text, int... reachesAndMinutes) {
        UpRiver x = Checks.river(text);
        for (int i = 0; i < reachesAndMinutes.length; i += 2) {
            Checks.due("logged", x.logged(reachesAndMinutes[i], reachesAndMinutes[i + 1]), i / 2 + 1);
        }
        return x;
    }

    private static void logged() {
        Checks.sentence("27.bounds", "LOGGED: REACH (0 to reaches; above the one LOGGED last), MINUTE (0 to 300; later than that): how many there are.");
        UpRiver x = Checks.river("reaches 3;");
        Checks.due("the least", x.logged(0, 0), 1);
        Checks.due("the same reach", x.logged(0, 5), Checks.BAD);
        Checks.due("the same minute", x.logged(1, 0), Checks.BAD);
        Checks.due("one above, one later", x.logged(1, 1), 2);
        Checks.due("a reach below", x.logged(0, 5), Checks.BAD);
        Checks.due("a minute before", x.logged(2, 0), Checks.BAD);
        Checks.due("the most", x.logged(3, 300), 3);
        Checks.due("no more", x.logged(4, 301), Checks.BAD);
        Checks.due("how many", x.count(0), 3);
        x = Checks.river("reaches 3;");
        Checks.due("any may be the first", x.logged(3, 300), 1);
        Checks.sentence("27.bad", "how many there are. BAD; FULL: 12.");
        UpRiver y = Checks.river("reaches 3;");
        Checks.allAre(Checks.BAD, "reach", r -> y.logged(r, 0), -1, 4, 8, Checks.LEAST, Checks.MOST);
        Checks.allAre(Checks.BAD, "minute", t -> y.logged(0, t), -1, 301, Checks.LEAST, Checks.MOST);
        Checks.due("none", y.count(0), 0);
        Checks.due("though refused before", y.logged(0, 0), 1);
    }

    /** There are no twelve reaches, one above another: the log of a river of eight is full with nine. */
    private static void loggedMany() {
        Checks.sentence("27.many", "REACH (0 to reaches; above the one LOGGED last)");
        UpRiver x = Checks.river("reaches 8;");
        for (int r = 0; r <= 8; r++) {
            Checks.due("reach " + r, x.logged(r, 10 * r), r + 1);
        }
        Checks.due("none above", x.logged(9, 300), Checks.BAD);
        Checks.due("none above", x.logged(8, 300), Checks.BAD);
        Checks.due("how many", x.count(0), 9);
    }

    private static String dry(int r, int depth, int but) {
        StringBuilder b = new StringBuilder();
        for (int lane = 0; lane <= 8; lane++) {
            if (lane != but) {
                b.append("deep ").append(r).append(' ').append(lane).append(' ').append(depth).append(';');
            }
        }
        return b.toString();
    }

    private static void loggedLowerEnd() {
        Checks.sentence("T2.logged", "LOGGED: she was at the lower end of a REACH in a MINUTE.");
        for (int r = 0; r < 6; r++) {
            Checks.due("eight eighths from reach " + r + " to the next", logOf("", r, 7, r + 1, 9).lost(0), 0);
        }
        Checks.due("eight of them, one by one", logOf("lee 2;", 2, 7, 3, 15).lost(0), 0);
        Checks.due("not in one minute less", logOf("lee 2;", 2, 7, 3, 14).lost(0), -1);
        Checks.due("in that minute: there is water from 30 on", logOf("draught 20;bank 1 3 5;" + dry(1, 19, 0) + Checks.phases("high", 0, 0, 1), 1, 30, 2, 32).lost(0), 0);
        Checks.due("not in 29", logOf("draught 20;bank 1 3 5;" + dry(1, 19, 0) + Checks.phases("high", 0, 0, 1), 1, 29, 2, 32).lost(0), -1001);
    }

    private static void lostFromWhere() {
        Checks.sentence("28.from", "Between one LOGGED and the next one, at the SOONEST (from any LANE there that is AFLOAT then, on any BOARD");
        Checks.due("any lane", logOf("reaches 2;point 8;" + dry(0, 0, 4), 0, 0, 1, 9).lost(0), 8);
        Checks.due("lane 0, too", logOf("reaches 2;point 8;" + dry(0, 0, 0), 0, 0, 1, 9).lost(0), 8);
        Checks.due("lane 8, too", logOf("reaches 2;point 8;" + dry(0, 0, 8), 0, 0, 1, 9).lost(0), 8);
        Checks.due("board 0", logOf("reaches 2;shift 4;wind 0 2;", 0, 0, 1, 9).lost(0), 8);
        Checks.due("board 1", logOf("reaches 2;shift 4;wind 0 0;", 0, 0, 1, 9).lost(0), 8);
        String tidal = "reaches 2;point 8;beat 5;draught 20;" + dry(0, 0, 4) + "deep 0 4 15;" + Checks.phases("high", 0, 0, 5);
        Checks.due("afloat then", logOf(tidal, 0, 5, 1, 9).lost(0), 3);
        Checks.due("afloat in the last minute of it", logOf(tidal, 0, 9, 1, 19).lost(0), 9);
        Checks.due("not afloat then, though a minute later", logOf(tidal, 0, 4, 1, 9).lost(0), -1001);
        Checks.due("not afloat any more", logOf(tidal, 0, 10, 1, 19).lost(0), -1001);
        Checks.due("at the lower end", logOf("reaches 3;", 1, 0, 2, 9).lost(0), 7);
        Checks.due("none is open", logOf("reaches 3;bank 1 4 4;deep 1 4 0;", 1, 0, 2, 9).lost(0), -1001);
    }

    private static void lostTillWhere() {
        Checks.sentence("28.till", "till she is AFLOAT at that end or above it, or UP)");
        Checks.due("just at that end", logOf("reaches 2;point 8;", 0, 0, 1, 9).lost(0), 8);
        Checks.due("an eighth less is not there", logOf("reaches 2;point 7;", 0, 0, 1, 9).lost(0), 7);
        String swift = "reaches 3;point 8;" + dry(1, 0, -1) + Checks.twelve("tide", 18);
        Checks.due("above it, though there is no water at that end", logOf(swift, 0, 0, 1, 9).lost(0), 8);
        String tidal = "reaches 2;point 8;beat 5;draught 20;" + dry(1, 15, -1) + Checks.phases("high", 0, 0, 0, 5);
        Checks.due("afloat there from 10 on", logOf(tidal, 0, 0, 1, 20).lost(0), 10);
        Checks.due("up", logOf("reaches 2;", 1, 0, 2, 9).lost(0), 7);
        Checks.due("up from below", logOf("reaches 2;", 0, 0, 2, 9).lost(0), 5);
        Checks.due("up, beyond the top", logOf("reaches 2;point 7;", 1, 0, 2, 9).lost(0), 7);
        Checks.due("up in 300", logOf("reaches 2;", 1, 298, 2, 300).lost(0), 0);
        Checks.due("by a turn that drifts", logOf("reaches 2;turn 8;bank 0 4 4;bank 1 8 8;" + Checks.twelve("tide", 13), 0, 0, 2, 20).lost(0), 12);
    }

    private static void lostMost() {
        Checks.sentence("28.most", "by how many MINUTES she was later than she could be (also less than 0), the most (what 0),"
                + " the number of the LOGGED where that stretch begins (1; the first such).");
        UpRiver x = logOf("", 0, 0, 1, 5, 2, 6, 3, 11, 4, 20, 5, 29, 6, 31);
        Checks.due("3, -1, 3, 7, 7, 0: the most", x.lost(0), 7);
        Checks.due("the first such", x.lost(1), 3);
        x = logOf("", 0, 0, 1, 1);
        Checks.due("less than 0", x.lost(0), -1);
        Checks.due("where", x.lost(1), 0);
        x = logOf("", 0, 0, 1, 2);
        Checks.due("0", x.lost(0), 0);
        x = logOf("", 0, 0, 4, 1, 5, 2, 6, 3);
        Checks.due("-7, -1, -1: the most", x.lost(0), -1);
        Checks.due("the first such", x.lost(1), 1);
        x = logOf("", 1, 7, 3, 50);
        Checks.due("over two reaches", x.lost(0), 39);
        x = logOf("", 0, 0, 1, 299);
        Checks.due("the most that can be", x.lost(0), 297);
    }

    private static void lostRefused() {
        Checks.sentence("28.looked", "A stretch that can not be done at all by 300 is not looked at.");
        Checks.due("by 301", logOf("", 0, 299, 1, 300).lost(0), -1001);
        Checks.due("by 300", logOf("", 0, 298, 1, 300).lost(0), 0);
        UpRiver x = logOf("", 0, 0, 1, 1, 2, 299, 3, 300);
        Checks.due("the others are", x.lost(0), 296);
        Checks.due("where", x.lost(1), 1);
        x = logOf("reaches 3;deep 0 4 0;bank 0 4 4;", 0, 0, 1, 2, 2, 3);
        Checks.due("the first is not looked at", x.lost(0), -1);
        Checks.due("it counts all the same", x.lost(1), 1);
        Checks.sentence("28.refused", "BAD -1000; NONE -1001: there is no stretch.");
        UpRiver none = new UpRiver();
        Checks.due("none logged", none.lost(0), -1001);
        Checks.due("none logged", none.lost(1), -1001);
        none.logged(0, 0);
        Checks.due("one logged", none.lost(0), -1001);
        Checks.due("one logged", none.lost(1), -1001);
        Checks.allAre(-1000, "lost", none::lost, -1, 2, Checks.LEAST, Checks.MOST);
        Checks.due("none that can be done", logOf("", 0, 299, 1, 300).lost(1), -1001);
    }

    // ---- a wind that swings

    private static UpRiver swung(int... winds) {
        UpRiver x = new UpRiver();
        for (int i = 0; i < winds.length; i++) {
            Checks.due("swing", x.swing(winds[i]), i + 1);
        }
        return x;
    }

    private static void swing() {
        Checks.sentence("29.many", "A SWING more (0 to 2): how many there are.");
        UpRiver x = new UpRiver();
        for (int i = 1; i <= 40; i++) {
            Checks.due("swing", x.swing(i % 3), i);
        }
        Checks.sentence("29.refused", "BAD; FULL: 40.");
        Checks.due("the forty-first", x.swing(0), Checks.FULL);
        Checks.due("forty", x.count(1), 40);
        Checks.due("no such wind, though full", x.swing(3), Checks.BAD);
        UpRiver y = new UpRiver();
        Checks.allAre(Checks.BAD, "swing", y::swing, -1, 3, Checks.LEAST, Checks.MOST);
        Checks.due("none", y.count(1), 0);
    }

    private static void swingsBehindAnother() {
        Checks.sentence("T2.swings", "SWINGS: WINDS 0 to 2, one behind another.");
        for (int a = 0; a <= 2; a++) {
            for (int b = 0; b <= 2; b++) {
                for (int c = 0; c <= 2; c++) {
                    Checks.due(a + ", " + b + ", " + c, swung(a, b, c).judged(1), (a == b ? 1 : 0) + (b == c ? 1 : 0));
                }
            }
        }
        Checks.due("0 and 1, then 1", swung(0, 1, 1).judged(2), 1);
        Checks.due("1 and 1, then 0", swung(1, 1, 0).judged(2), 0);
    }

    private static void judgedNearest() {
        Checks.sentence("T2.judged", "JUDGED by n: the mean of the n ahead of it, to the nearest (a half: up), is what the next one will be.");
        int[][] means = {{0, 0, 0}, {0, 1, 1}, {1, 0, 1}, {1, 1, 1}, {0, 2, 1}, {1, 2, 2}, {2, 2, 2}, {0, 0, 0, 0}, {0, 0, 1, 0}, {0, 1, 1, 1}, {0, 2, 2, 1},
            {1, 2, 2, 2}, {2, 2, 0, 1}, {0, 0, 0, 1, 0}, {0, 0, 1, 1, 1}, {0, 2, 2, 1, 1}, {1, 1, 2, 2, 2}, {0, 2, 2, 2, 2}, {0, 0, 0, 0, 2, 0}};
        for (int[] row : means) {
            int n = row.length - 1;
            for (int next = 0; next <= 2; next++) {
                UpRiver x = new UpRiver();
                for (int i = 0; i < n; i++) {
                    x.swing(row[i]);
                }
                x.swing(next);
                Checks.due("by " + n + ", the next one is " + next, x.judged(n), next == row[n] ? 1 : 0);
            }
        }
    }

    private static void judged() {
        Checks.sentence("30.right", "How often JUDGED by n (1 to 20) is right (of those that have n ahead of them).");
        UpRiver x = new UpRiver();
        for (int n = 1; n <= 20; n++) {
            Checks.due("of none", x.judged(n), 0);
        }
        for (int i = 1; i <= 40; i++) {
            x.swing(1);
            for (int n = 1; n <= 20; n++) {
                Checks.due("by " + n + " of " + i, x.judged(n), Math.max(0, i - n));
            }
        }
        x = swung(2, 0, 0);
        Checks.due("the two ahead of it, not all", x.judged(1), 1);
        Checks.due("2 and 0 are 1", x.judged(2), 0);
        Checks.sentence("30.bad", "(of those that have n ahead of them). BAD.");
        Checks.allAre(Checks.BAD, "judged", x::judged, 0, -1, 21, 40, Checks.LEAST, Checks.MOST);
    }

    private static String judgement(UpRiver x) {
        return x.judge(0) + ": " + x.judge(1) + " of " + x.judge(2);
    }

    private static void judge() {
        Checks.sentence("31.greatest", "The n (1 to 20) that is right in the greatest part of what it JUDGED, of several the least (what 0), right (1), all it JUDGED (2).");
        Checks.due("never right", judgement(swung(0, 2)), "1: 0 of 1");
        Checks.due("always right", judgement(swung(1, 1, 1, 1)), "1: 3 of 3");
        Checks.due("1 of 2 by 1, 1 of 1 by 2", judgement(swung(0, 1, 1)), "2: 1 of 1");
        Checks.due("3 of 4 by 3, 1 of 1 by 6", judgement(swung(0, 0, 1, 0, 0, 1, 0)), "6: 1 of 1");
        Checks.due("2 of 4 by 2, 1 of 2 by 4: the least, not in lowest terms", judgement(swung(0, 1, 0, 1, 0, 1)), "2: 2 of 4");
        UpRiver x = new UpRiver();
        for (int i = 0; i < 21; i++) {
            x.swing(i < 9 ? 0 : i < 20 ? 2 : 1);
        }
        Checks.due("20, of 21 swings", judgement(x), "20: 1 of 1");
        x = new UpRiver();
        for (int i = 0; i < 22; i++) {
            x.swing(i < 10 ? 0 : i < 21 ? 2 : 1);
        }
        Checks.due("21 would be right in 1 of 1, but is not asked", judgement(x), "1: 19 of 21");
        x = new UpRiver();
        for (int i = 0; i < 40; i++) {
            x.swing(0);
        }
        Checks.due("of forty", judgement(x), "1: 39 of 39");
    }

    private static void judgeRefused() {
        Checks.sentence("31.refused", "BAD; NONE: none JUDGED anything.");
        for (int what = 0; what <= 2; what++) {
            Checks.due("no swing", new UpRiver().judge(what), Checks.NONE);
            Checks.due("one swing", swung(1).judge(what), Checks.NONE);
        }
        Checks.due("two swings", swung(1, 1).judge(0), 1);
        UpRiver x = new UpRiver();
        Checks.allAre(Checks.BAD, "judge", x::judge, -1, 3, Checks.LEAST, Checks.MOST);
    }

    // ---- a barge

    /** She lies aground, so that the barge alone moves. */
    private static void bargeComesDown() {
        Checks.sentence("T2.barge", "A BARGE comes down a LANE: from the highest REACH each MINUTE one REACH lower, to REACH 0.");
        for (int reaches = 2; reaches <= 8; reaches += 3) {
            for (int r = 0; r < reaches; r++) {
                UpRiver x = Checks.river("reaches " + reaches + ";deep " + r + " 4 0;");
                x.set(8 * r + 7, 4, 0, 10);
                for (int at = 0; at <= 300; at++) {
                    int met = at + reaches - 1 - r;
                    boolean meets = met >= 10 && met <= 300;
                    Checks.due("at " + at + " from " + reaches, x.barge(4, at, 0, 0, 0), meets ? met : Checks.NONE);
                    Checks.due("at " + at + " from " + reaches, x.barge(4, at, 0, 0, 1), meets ? r : Checks.NONE);
                }
                x.set(8 * r, 4, 1, 0);
                Checks.due("in 300, from 0 on", x.barge(4, 301 - reaches + r, 0, 0, 0), 300);
                Checks.due("not in 301", x.barge(4, Math.min(300, 302 - reaches + r), 0, 0, 0), r == reaches - 1 ? 300 : Checks.NONE);
                Checks.due("another lane", x.barge(3, 20, 0, 0, 0), Checks.NONE);
                Checks.due("another lane", x.barge(5, 20, 0, 0, 0), Checks.NONE);
            }
        }
    }

    private static void bargeWhileSheTurns() {
        Checks.sentence("32.turns", "(what 0; while she TURNS she is where she began it)");
        UpRiver x = Checks.river("reaches 4;turn 4;deep 0 5 0;" + Checks.twelve("tide", 11));
        x.set(4, 4, 0, 3);
        Checks.due("in the first minute of it", x.barge(4, 0, 0, 0, 0), 3);
        Checks.due("in the last minute of it", x.barge(4, 3, 0, 0, 0), 6);
        Checks.due("behind it she is a reach above", x.barge(4, 4, 0, 0, 0), Checks.NONE);
        Checks.due("there", x.barge(4, 5, 0, 0, 0), 7);
        Checks.due("the reach", x.barge(4, 5, 0, 0, 1), 1);
        Checks.due("not while she turned", x.barge(4, 2, 0, 0, 1), 0);
    }

    private static void bargeFirst() {
        Checks.sentence("32.first", "the first MINUTE in which a SKIPPER (m, e) is in its REACH and LANE");
        UpRiver x = Checks.river("reaches 8;turn 1;" + Checks.twelve("tide", 0));
        x.set(63, 4, 0, 0);
        Checks.due("he turns and drifts down before it, reach by reach", x.barge(4, 0, 20, 0, 0), 0);
        Checks.due("the reach", x.barge(4, 0, 20, 0, 1), 7);
        Checks.due("a minute later it meets him at the end alone", x.barge(4, 1, 20, 0, 0), 8);
        Checks.due("the reach", x.barge(4, 1, 20, 0, 1), 0);
        x = Checks.river("reaches 2;");
        Checks.due("he sails on: lane 2 in reach 1 in minute 2", x.barge(2, 2, 0, 0, 0), 2);
        Checks.due("in lane 1, reach 0, in minute 1", x.barge(1, 0, 0, 0, 0), 1);
        Checks.due("by his margin he stays in lane 0", x.barge(0, 0, 15, 0, 0), 1);
        x.set(8, 8, 0, 0);
        Checks.due("lane 8, now", x.barge(8, 0, 0, 0, 0), 0);
        x.set(8, 0, 0, 0);
        Checks.due("lane 0, now", x.barge(0, 0, 0, 0, 0), 0);
        x.set(12, 4, 0, 0);
        Checks.due("when he is up he is in no reach", x.barge(4, 1, 0, 0, 0), Checks.NONE);
        x = Checks.river("reaches 2;wind 0 0;");
        x.set(0, 4, 0, 0);
        Checks.due("by his eyes", x.barge(3, 2, 0, 1, 0), 3);
        Checks.due("without", x.barge(3, 2, 0, 0, 0), Checks.NONE);
    }

    private static void bargeReach() {
        Checks.sentence("32.reach", "(what 0; while she TURNS she is where she began it), the REACH (1).");
        UpRiver x = new UpRiver();
        for (int r = 0; r < 6; r++) {
            x.set(8 * r, 4, 0, 20);
            Checks.due("reach " + r, x.barge(4, 15 + r, 0, 0, 1), r);
            x.set(8 * r + 7, 4, 0, 20);
            Checks.due("reach " + r + ", its upper end", x.barge(4, 15 + r, 0, 0, 1), r);
            Checks.due("the minute", x.barge(4, 15 + r, 0, 0, 0), 20);
        }
        Checks.due("none", x.barge(4, 0, 0, 0, 1), Checks.NONE);
    }

    private static void bargeRefused() {
        Checks.sentence("32.minutes", "A BARGE down a LANE (0 to 8), in MINUTE at (0 to 300) in the highest REACH");
        UpRiver x = new UpRiver();
        x.set(40, 4, 0, 300);
        Checks.due("in 300", x.barge(4, 300, 0, 0, 0), 300);
        Checks.due("the reach", x.barge(4, 300, 0, 0, 1), 5);
        x.set(0, 4, 0, 300);
        Checks.due("in 300 in reach 0", x.barge(4, 295, 0, 0, 0), 300);
        Checks.due("not behind 300", x.barge(4, 296, 0, 0, 0), Checks.NONE);
        Checks.due("gone", x.barge(4, 294, 0, 0, 0), Checks.NONE);
        Checks.sentence("32.refused", "BAD; STATE; NONE: in none.");
        Checks.allAre(Checks.BAD, "lane", lane -> x.barge(lane, 0, 0, 0, 0), -1, 9, Checks.LEAST, Checks.MOST);
        Checks.allAre(Checks.BAD, "at", at -> x.barge(4, at, 0, 0, 0), -1, 301, Checks.LEAST, Checks.MOST);
        Checks.allAre(Checks.BAD, "m", m -> x.barge(4, 0, m, 0, 0), -1, 21, Checks.LEAST, Checks.MOST);
        Checks.allAre(Checks.BAD, "e", e -> x.barge(4, 0, 0, e, 0), -1, 2, Checks.LEAST, Checks.MOST);
        Checks.allAre(Checks.BAD, "what", what -> x.barge(4, 0, 0, 0, what), -1, 2, Checks.LEAST, Checks.MOST);
        UpRiver up = Checks.river("reaches 2;");
        up.sail(4);
        Checks.due("up", up.barge(3, 4, 0, 0, 0), Checks.STATE);
        Checks.due("up, no such lane", up.barge(9, 4, 0, 0, 0), Checks.BAD);
    }
}
