/** The edges of the river: reaches, lanes, phases, what is afloat, what flows, the way; promises 6 to 9. */
public final class RiverEdgesTest {
    private static final int[] BEATS = {5, 7, 25, 30, 60, 119, 120};

    public static void main(String[] args) {
        all();
        Checks.finish();
    }

    static void all() {
        reachesAndLanes();
        open();
        places();
        phases();
        heights();
        afloatByWater();
        flowInTheMiddle();
        flowBySides();
        flowCut();
        flowInEddies();
        way();
        rule();
        reach();
        flow();
        afloat();
        afloatTill300();
    }

    // ---- the terms

    private static void reachesAndLanes() {
        Checks.sentence("T1.reach", "THE RIVER has REACHES 0 to reaches less 1, one above another");
        for (int reaches = 2; reaches <= 8; reaches++) {
            UpRiver x = Checks.river("reaches " + reaches + ";");
            for (int r = -2; r <= 9; r++) {
                Checks.due("reach " + r + " of " + reaches, x.reach(r, 0), r >= 0 && r < reaches ? 0 : Checks.BAD);
            }
            Checks.due("to be up is above the highest", x.set(8 * reaches - 1, 0, 0, 0), 1);
            Checks.due("no place above", x.set(8 * reaches, 0, 0, 0), Checks.BAD);
            for (int r = 0; r + 1 < reaches; r++) {
                x.set(8 * r + 7, 0, 0, 0);
                x.sail(1);
                Checks.due("one above another: from reach " + r, x.now(1), 8 * r + 11);
            }
        }
        Checks.sentence("T1.lanes", "each with LANES 0 to 8");
        UpRiver x = new UpRiver();
        for (int lane = -2; lane <= 10; lane++) {
            boolean is = lane >= 0 && lane <= 8;
            Checks.due("lane " + lane, x.set(0, lane, 0, 0), is ? 1 : Checks.BAD);
            Checks.due("lane " + lane, x.afloat(0, lane, 0, 0), is ? 0 : Checks.BAD);
            Checks.due("lane " + lane, x.flow(0, lane, 0), is ? 0 : -1000);
        }
    }

    private static void open() {
        Checks.sentence("T1.open", "OPEN are those from its low one to its high one (0, 8).");
        int[][] banks = {{0, 8}, {0, 0}, {8, 8}, {3, 5}, {4, 4}, {1, 8}, {0, 7}};
        for (int[] bank : banks) {
            UpRiver x = Checks.river("bank 2 " + bank[0] + " " + bank[1] + ";");
            Checks.due("low", x.reach(2, 0), bank[0]);
            Checks.due("high", x.reach(2, 1), bank[1]);
            for (int lane = 0; lane <= 8; lane++) {
                boolean is = lane >= bank[0] && lane <= bank[1];
                Checks.due("lane " + lane, x.flow(2, lane, 0), is ? 0 : -1000);
                Checks.due("lane " + lane, x.set(16, lane, 0, 0), is ? 1 : Checks.BAD);
                Checks.due("lane " + lane + " of the reach below", x.flow(1, lane, 0), 0);
                Checks.due("lane " + lane + " of the reach above", x.flow(3, lane, 0), 0);
            }
        }
    }

    private static void places() {
        Checks.sentence("T1.place", "A place (REACH, LANE) has DEPTH (0 to 30; 20), an EDDY or none; a REACH has a LEE or none, WIND (0, 1, 2; 1).");
        UpRiver x = Checks.river("reaches 8;deep 0 0 0;deep 7 8 30;deep 0 8 1;deep 1 0 29;eddy 0 0;eddy 7 8;lee 0;lee 7;wind 0 0;wind 7 2;wind 3 1;");
        for (int r = 0; r < 8; r++) {
            for (int lane = 0; lane <= 8; lane++) {
                int at = 10 * r + lane;
                int depth = at == 0 ? 0 : at == 78 ? 30 : at == 8 ? 1 : at == 10 ? 29 : 20;
                Checks.due("depth of " + r + ", " + lane, x.reach(r, 10 + lane), depth);
                Checks.due("eddy of " + r + ", " + lane, x.reach(r, 20 + lane), at == 0 || at == 78 ? 1 : 0);
            }
            Checks.due("lee of " + r, x.reach(r, 2), r == 0 || r == 7 ? 1 : 0);
            Checks.due("wind of " + r, x.reach(r, 3), r == 0 ? 0 : r == 7 ? 2 : 1);
        }
    }

    private static void phases() {
        Checks.sentence("T1.phases", "PHASES 0 to 11, each beat MINUTES long, one behind another, 11 then 0");
        for (int beat : BEATS) {
            UpRiver x = Checks.river("beat " + beat + ";tide 0 1 2 3 4 5 6 7 8 9 10 11;");
            int phase = 0;
            int left = beat;
            for (int t = 0; t <= 300; t++) {
                Checks.due("minute " + t + " of beat " + beat, x.flow(0, 4, t), phase - 9);
                left--;
                if (left == 0) {
                    left = beat;
                    phase = phase == 11 ? 0 : phase + 1;
                }
            }
        }
        Checks.sentence("T1.minute", "In MINUTE t (0 to 300) it is PHASE t by beat (divided down) modulo 12.");
        UpRiver x = Checks.river("beat 25;tide 0 1 2 3 4 5 6 7 8 9 10 11;");
        Checks.due("the first minute", x.flow(0, 4, 0), -9);
        Checks.due("24 is phase 0", x.flow(0, 4, 24), -9);
        Checks.due("25 is phase 1", x.flow(0, 4, 25), -8);
        Checks.due("299 is phase 11", x.flow(0, 4, 299), 2);
        Checks.due("300 is phase 0 again", x.flow(0, 4, 300), -9);
        x = Checks.river("beat 5;tide 0 1 2 3 4 5 6 7 8 9 10 18;");
        Checks.due("59 is phase 11", x.flow(0, 4, 59), 9);
        Checks.due("60 is phase 0", x.flow(0, 4, 60), -9);
        Checks.due("119 is phase 11", x.flow(0, 4, 119), 9);
        Checks.due("120 is phase 0", x.flow(0, 4, 120), -9);
        x = Checks.river("beat 120;tide 0 1 2 3 4 5 6 7 8 9 10 11;");
        Checks.due("119 is phase 0", x.flow(0, 4, 119), -9);
        Checks.due("300 is phase 2", x.flow(0, 4, 300), -7);
        Checks.sentence("T1.stream", "STREAM (0 to 18, less 9: from -9 to 9 upwards; 0)");
        for (int told = 0; told <= 18; told++) {
            x = Checks.river(Checks.twelve("tide", told));
            Checks.due("the stream of " + told, x.flow(0, 4, 0), told - 9);
        }
        Checks.due("not told: none", new UpRiver().flow(0, 4, 0), 0);
    }

    private static void heights() {
        Checks.sentence("T1.height", "HEIGHT (0 to 15; 0)");
        for (int p = 0; p < 12; p++) {
            UpRiver x = Checks.river("beat 5;draught 15;deep 0 4 0;high" + " 14".repeat(p) + " 15" + " 14".repeat(11 - p) + ";");
            Checks.due("15 in phase " + p, x.afloat(0, 4, 0, 0), 5 * p);
            Checks.due("till its end", x.afloat(0, 4, 5 * p, 1), 5 * p + 5);
            Checks.due("and twelve beats later", x.afloat(0, 4, 5 * p + 5, 0), 5 * p + 60);
        }
        Checks.due("not told: none", Checks.river("draught 1;deep 0 4 0;").afloat(0, 4, 0, 0), Checks.NONE);
        for (int high = 0; high <= 15; high++) {
            UpRiver x = Checks.river("reaches 2;draught 15;deep 0 0 " + (15 - high) + ";" + Checks.twelve("high", high));
            Checks.due("a way over 15 with a height of " + high, x.soonest(), 4);
            x = Checks.river("reaches 2;draught 16;deep 0 0 " + (15 - high) + ";" + Checks.twelve("high", high));
            Checks.due("none over 15 with a draught of 16", x.soonest(), Checks.NONE);
        }
    }

    private static void afloatByWater() {
        Checks.sentence("T2.afloat", "AFLOAT: the place is OPEN, DEPTH and HEIGHT then, summed, are draught or more.");
        UpRiver x = Checks.river("draught 12;deep 0 0 0;deep 0 1 11;deep 0 2 12;deep 0 3 13;bank 1 3 5;");
        int[] want = {0, 0, 1, 1, 1};
        for (int lane = 0; lane < want.length; lane++) {
            Checks.due("lane " + lane, x.set(0, lane, 0, 0), want[lane]);
        }
        Checks.due("not open, though deep", x.afloat(1, 2, 0, 0), Checks.NONE);
        Checks.due("nor there", x.afloat(1, 6, 0, 0), Checks.NONE);
        Checks.due("open", x.afloat(1, 3, 0, 0), 0);
        Checks.due("open", x.afloat(1, 5, 0, 0), 0);
        x = Checks.river("beat 5;draught 20;deep 0 0 14;deep 0 1 15;deep 0 2 16;" + Checks.phases("high", 0, 0, 4, 5, 6));
        Checks.due("14 and 6", x.afloat(0, 0, 0, 0), 15);
        Checks.due("15 and 5", x.afloat(0, 1, 0, 0), 10);
        Checks.due("16 and 4", x.afloat(0, 2, 0, 0), 5);
        x = Checks.river("draught 1;deep 0 0 0;deep 0 1 1;");
        Checks.due("0 and draught 1", x.set(0, 0, 0, 0), 0);
        Checks.due("1 and draught 1", x.set(0, 1, 0, 0), 1);
        x = Checks.river("draught 20;deep 0 0 30;deep 0 1 19;");
        Checks.due("30 and draught 20", x.set(0, 0, 0, 0), 1);
        Checks.due("20 and draught 20", x.set(0, 2, 0, 0), 1);
        Checks.due("19 and draught 20", x.set(0, 1, 0, 0), 0);
    }

    private static void flowInTheMiddle() {
        Checks.sentence("T2.flow", "FLOW at a place in a MINUTE: STREAM;");
        for (int told = 0; told <= 18; told++) {
            UpRiver x = Checks.river("beat 5;" + Checks.phases("tide", 9, 9, told));
            for (int lane = 2; lane <= 6; lane++) {
                Checks.due("lane " + lane + " in minute 4", x.flow(5, lane, 4), 0);
                Checks.due("lane " + lane + " in minute 5", x.flow(5, lane, 5), told - 9);
                Checks.due("lane " + lane + " in minute 9", x.flow(0, lane, 9), told - 9);
                Checks.due("lane " + lane + " in minute 10", x.flow(0, lane, 10), 0);
            }
        }
    }

    private static void flowBySides() {
        Checks.sentence("T2.sides", "half of it, cut, if the LANE is the low one or the high one of its REACH, or next to it");
        int[][] want = {{4, 4, 9, 9, 9, 9, 9, 4, 4}, {4}, {4, 4}, {4, 4, 4}, {4, 4, 4, 4}, {4, 4, 9, 4, 4}, {4, 4, 9, 9, 4, 4}};
        for (int[] lanes : want) {
            for (int low = 0; low + lanes.length <= 9; low++) {
                UpRiver x = Checks.river("bank 0 " + low + " " + (low + lanes.length - 1) + ";" + Checks.twelve("tide", 18));
                for (int i = 0; i < lanes.length; i++) {
                    Checks.due(lanes.length + " lanes from " + low + ", the one " + i, x.flow(0, low + i, 0), lanes[i]);
                }
                Checks.due("of its own reach", x.flow(1, 2, 0), 9);
            }
        }
    }

    private static void flowCut() {
        Checks.sentence("T.cut", "cut is towards 0");
        int[] halves = {-4, -4, -3, -3, -2, -2, -1, -1, 0, 0, 0, 1, 1, 2, 2, 3, 3, 4, 4};
        for (int told = 0; told <= 18; told++) {
            UpRiver x = Checks.river(Checks.twelve("tide", told) + "eddy 0 8;");
            Checks.due("half of " + (told - 9), x.flow(0, 0, 0), halves[told]);
            Checks.due("half of " + (told - 9), x.flow(0, 1, 0), halves[told]);
            Checks.due("half of it, in an eddy", x.flow(0, 8, 0), -halves[told]);
        }
    }

    private static void flowInEddies() {
        Checks.sentence("T2.eddy", "in an EDDY that with the other sign");
        UpRiver x = Checks.river("beat 5;eddy 0 0;eddy 0 4;eddy 0 8;bank 1 3 4;eddy 1 6;eddy 1 3;tide 0 9 18 9 9 9 9 9 9 9 9 9;");
        int[][] want = {{4, -4, -9, -9, 9, -9, -9, -4, 4}, {0, 0, 0, 0, 0, 0, 0, 0, 0}, {-4, 4, 9, 9, -9, 9, 9, 4, -4}};
        for (int phase = 0; phase < 3; phase++) {
            for (int lane = 0; lane <= 8; lane++) {
                Checks.due("phase " + phase + ", lane " + lane, x.flow(0, lane, 5 * phase), want[phase][lane]);
            }
        }
        Checks.due("no other place", x.flow(2, 4, 0), -9);
        Checks.due("an eddy that is not open", x.flow(1, 6, 0), -1000);
        Checks.due("an eddy between two lanes", x.flow(1, 3, 0), 4);
    }

    private static void way() {
        Checks.sentence("T2.way", "WAY of a BOARD at a REACH: in a LEE 1; else point, and shift, if WIND is 2, less shift, if it is 0 (BOARD 1: turned round).");
        int[][] rules = {{4, 2}, {1, 8}, {8, 8}, {1, 0}, {8, 0}};
        for (int[] rule : rules) {
            UpRiver x = Checks.river("point " + rule[0] + ";shift " + rule[1] + ";wind 0 0;wind 1 1;wind 2 2;wind 3 0;lee 3;wind 4 2;lee 4;lee 5;");
            int less = rule[0] - rule[1];
            int more = rule[0] + rule[1];
            int[] board0 = {less, rule[0], more, 1, 1, 1};
            int[] board1 = {more, rule[0], less, 1, 1, 1};
            for (int r = 0; r < 6; r++) {
                Checks.due("board 0 at reach " + r, x.reach(r, 4), board0[r]);
                Checks.due("board 1 at reach " + r, x.reach(r, 5), board1[r]);
            }
        }
    }

    // ---- promises 6 to 9

    private static void rule() {
        Checks.sentence("6.rules", "RULES 0 to 6; 10 and p: STREAM of PHASE p, and 9; 30 and p: HEIGHT.");
        UpRiver x = Checks.river("reaches 4;beat 7;draught 8;point 5;shift 3;turn 6;dark 99;"
                + "tide 0 1 2 3 4 5 6 7 8 9 10 18;high 15 14 13 12 11 10 9 8 7 6 5 0;");
        int[] rules = {4, 7, 8, 5, 3, 6, 99};
        for (int i = 0; i < rules.length; i++) {
            Checks.due("rule " + i, x.rule(i), rules[i]);
        }
        for (int p = 0; p < 12; p++) {
            Checks.due("stream of " + p, x.rule(10 + p), p == 11 ? 18 : p);
            Checks.due("height of " + p, x.rule(30 + p), p == 11 ? 0 : 15 - p);
        }
        Checks.sentence("6.bad", "RULES 0 to 6; 10 and p: STREAM of PHASE p, and 9; 30 and p: HEIGHT. BAD.");
        Checks.allAre(Checks.BAD, "rule", x::rule, -1, 7, 8, 9, 22, 23, 29, 42, 43, 100, Checks.LEAST, Checks.MOST);
    }

    private static void reach() {
        Checks.sentence("7.what", "Of a REACH: 0 the low LANE, 1 the high one, 2 whether it has a LEE, 3 WIND, 4 WAY of BOARD 0, 5 of BOARD 1;"
                + " 10 and l: DEPTH of LANE l; 20 and l: whether an EDDY is there.");
        UpRiver x = Checks.river("reaches 3;point 1;shift 4;bank 0 2 6;wind 0 0;wind 1 2;wind 2 2;lee 2;deep 1 8 30;deep 1 0 0;eddy 0 0;eddy 2 8;");
        int[][] want = {{2, 6, 0, 0, -3, 5}, {0, 8, 0, 2, 5, -3}, {0, 8, 1, 2, 1, 1}};
        for (int r = 0; r < 3; r++) {
            for (int what = 0; what < 6; what++) {
                Checks.due("reach " + r + ", " + what, x.reach(r, what), want[r][what]);
            }
        }
        Checks.due("depth of lane 0", x.reach(1, 10), 0);
        Checks.due("depth of lane 8", x.reach(1, 18), 30);
        Checks.due("depth of a lane that is not open", x.reach(0, 10), 20);
        Checks.due("an eddy in a lane that is not open", x.reach(0, 20), 1);
        Checks.due("an eddy in lane 8", x.reach(2, 28), 1);
        Checks.due("none in lane 0", x.reach(2, 20), 0);
        Checks.sentence("7.bad", "20 and l: whether an EDDY is there. BAD.");
        Checks.allAre(Checks.BAD, "what", what -> x.reach(0, what), -1, 6, 7, 9, 19, 29, 30, Checks.LEAST, Checks.MOST);
        Checks.allAre(Checks.BAD, "reach", r -> x.reach(r, 0), -1, 3, 4, 7, 8, Checks.LEAST, Checks.MOST);
        Checks.allAre(Checks.BAD, "depth of reach", r -> x.reach(r, 10), -1, 3, 7, 8, Checks.LEAST, Checks.MOST);
        Checks.allAre(Checks.BAD, "eddy of reach", r -> x.reach(r, 28), -1, 3, 7, 8, Checks.LEAST, Checks.MOST);
    }

    private static void flow() {
        Checks.sentence("8.flow", "FLOW at a place in a MINUTE.");
        UpRiver x = Checks.river("reaches 3;beat 5;bank 1 3 5;tide 0 9 9 9 9 9 9 9 9 9 9 18;");
        Checks.due("minute 0", x.flow(0, 4, 0), -9);
        Checks.due("minute 300", x.flow(2, 4, 300), -9);
        Checks.due("minute 299", x.flow(2, 4, 299), 9);
        Checks.sentence("8.bad", "BAD -1000 (also a LANE that is not OPEN).");
        Checks.allAre(-1000, "lane", lane -> x.flow(0, lane, 0), -1, 9, Checks.LEAST, Checks.MOST);
        Checks.allAre(-1000, "lane not open", lane -> x.flow(1, lane, 0), 0, 2, 6, 8);
        Checks.due("low", x.flow(1, 3, 0), -4);
        Checks.due("high", x.flow(1, 5, 0), -4);
        Checks.allAre(-1000, "reach", r -> x.flow(r, 4, 0), -1, 3, 7, 8, Checks.LEAST, Checks.MOST);
        Checks.allAre(-1000, "minute", t -> x.flow(0, 4, t), -1, 301, Checks.LEAST, Checks.MOST);
    }

    private static void afloat() {
        Checks.sentence("9.first", "The first MINUTE from t on in which a place is AFLOAT (what 0), is not (1).");
        UpRiver x = Checks.river("reaches 3;beat 10;draught 10;deep 0 4 7;deep 0 5 0;bank 1 3 5;" + Checks.phases("high", 0, 0, 2, 3, 4));
        int[][] want = {{0, 20}, {19, 20}, {20, 20}, {39, 39}, {40, 140}, {159, 159}, {160, 260}, {279, 279}};
        for (int[] w : want) {
            Checks.due("afloat from " + w[0], x.afloat(0, 4, w[0], 0), w[1]);
        }
        int[][] aground = {{0, 0}, {19, 19}, {20, 40}, {39, 40}, {40, 40}, {140, 160}, {260, 280}, {300, 300}};
        for (int[] w : aground) {
            Checks.due("aground from " + w[0], x.afloat(0, 4, w[0], 1), w[1]);
        }
        Checks.due("a lane that is not open is not afloat", x.afloat(1, 2, 7, 1), 7);

        Checks.sentence("9.bad", "BAD; NONE: in none to 300.");
        Checks.allAre(Checks.BAD, "reach", r -> x.afloat(r, 4, 0, 0), -1, 3, 7, 8, Checks.LEAST, Checks.MOST);
        Checks.allAre(Checks.BAD, "lane", lane -> x.afloat(0, lane, 0, 0), -1, 9, Checks.LEAST, Checks.MOST);
        Checks.allAre(Checks.BAD, "minute", t -> x.afloat(0, 4, t, 0), -1, 301, Checks.LEAST, Checks.MOST);
        Checks.allAre(Checks.BAD, "what", what -> x.afloat(0, 4, 0, what), -1, 2, Checks.LEAST, Checks.MOST);
        Checks.due("a lane that is not open is no bad one", x.afloat(1, 2, 0, 0), Checks.NONE);
    }

    private static void afloatTill300() {
        Checks.sentence("9.none", "NONE: in none to 300.");
        UpRiver x = Checks.river("beat 25;draught 10;deep 0 4 7;deep 0 5 0;" + Checks.phases("high", 0, 3));
        Checks.due("in 300 again", x.afloat(0, 4, 25, 0), 300);
        Checks.due("in 300", x.afloat(0, 4, 300, 0), 300);
        Checks.due("never aground from 300 on", x.afloat(0, 4, 300, 1), Checks.NONE);
        Checks.due("never afloat", x.afloat(0, 5, 0, 0), Checks.NONE);
        Checks.due("never aground", x.afloat(0, 3, 0, 1), Checks.NONE);
        x = Checks.river("beat 25;draught 10;deep 0 4 7;deep 0 5 7;" + Checks.phases("high", 3, 0));
        Checks.due("aground in 300", x.afloat(0, 4, 25, 1), 300);
        Checks.due("never afloat from 300 on", x.afloat(0, 4, 300, 0), Checks.NONE);
        x = Checks.river("beat 43;draught 10;deep 0 4 7;" + Checks.phases("high", 0, 0, 0, 0, 0, 0, 0, 3));
        Checks.due("in 258, and on", x.afloat(0, 4, 0, 0), 258);
        Checks.due("not aground before 301", x.afloat(0, 4, 258, 1), Checks.NONE);
    }
}
