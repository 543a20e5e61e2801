/** The edges of the tape and of the text: the terms under 1, promises 1 to 5. */
public final class TextEdgesTest {
    private static final String[] LINES = {"reaches 2;", "beat 5;", "draught 1;", "point 1;", "shift 0;", "turn 1;", "dark 1;",
        "bank 0 0 0;", "deep 0 0 0;", "eddy 0 0;", "lee 0;", "wind 0 0;", Checks.twelve("tide", 0), Checks.twelve("high", 0)};

    public static void main(String[] args) {
        all();
        Checks.finish();
    }

    static void all() {
        newObject();
        feed();
        end();
        tapePlaces();
        blanks();
        names();
        numbers();
        otherSigns();
        lines();
        bounds();
        phaseBounds();
        noToken();
        misplaced();
        outOfBounds();
        secondTime();
        notTheSecondTime();
        noSuchReach();
        firstMet();
        textEmptiesTape();
        textCountsLines();
        textTellsAll();
        fault();
    }

    // ---- promises 1 to 3

    private static void newObject() {
        Checks.sentence("1.first", "As told at first");
        Checks.due("a new object is as behind an empty text", Checks.seen(new UpRiver()), Checks.seen(Checks.river("")));
        UpRiver x = new UpRiver();
        int[] rules = {6, 30, 6, 4, 2, 2, 300};
        for (int i = 0; i < rules.length; i++) {
            Checks.due("rule " + i, x.rule(i), rules[i]);
        }
        for (int p = 0; p < 12; p++) {
            Checks.due("no stream in phase " + p, x.rule(10 + p), 9);
            Checks.due("no height in phase " + p, x.rule(30 + p), 0);
        }
        int[] ofReach = {0, 8, 0, 1, 4, 4};
        for (int r = 0; r < 6; r++) {
            for (int what = 0; what < 6; what++) {
                Checks.due("reach " + r + ", " + what, x.reach(r, what), ofReach[what]);
            }
            for (int lane = 0; lane <= 8; lane++) {
                Checks.due("depth", x.reach(r, 10 + lane), 20);
                Checks.due("no eddy", x.reach(r, 20 + lane), 0);
            }
        }
        Checks.due("the boat at the start", Checks.boat(x), "0 0 0 0 1 0 0 0");
        for (int what = 0; what <= 5; what++) {
            Checks.due("count " + what, x.count(what), 0);
        }
        Checks.due("fault", x.fault(), 0);
        Checks.due("torn", x.torn(), 0);
        Checks.sentence("1.sheets", "SHEETS of nothing");
        for (int k = 0; k <= 3; k++) {
            Checks.due("lay on nothing", x.lay(k, 0, 0), -11);
        }
        Checks.due("cells of nothing", x.count(6), Checks.NONE);
    }

    private static void feed() {
        Checks.sentence("2.order", "Eight bytes come behind THE TAPE, the highest first");
        UpRiver x = new UpRiver();
        x.feed(0x6c65652020202020L);
        x.feed(0x352020202020203bL);
        Checks.due("lee, then 5;", x.text(), 1);
        Checks.due("the lee", x.reach(5, 2), 1);
        long[] spoilt = {0x8020202020202020L, 0x20ff202020202020L, 0x2020802020202020L, 0x20202020202020ffL};
        int[] places = {0, 1, 2, 7};
        for (int i = 0; i < spoilt.length; i++) {
            x.feed(0x2020202020202020L);
            x.feed(spoilt[i]);
            Checks.due("a byte above 127 is the sign at its place", x.text(), -10 - 8 - places[i]);
        }
        x.feed(0L);
        Checks.due("bytes of 0", x.text(), -10);
        x.feed(-1L);
        Checks.due("bytes of 255", x.text(), -10);

        Checks.sentence("2.count", "how many it has");
        x = new UpRiver();
        for (int i = 1; i <= 50; i++) {
            Checks.due("feed " + i, x.feed(0x2020202020202020L), 8 * i);
        }
        x.end(3);
        Checks.due("behind three", x.feed(Long.MIN_VALUE), 11);

        Checks.sentence("2.full", "FULL: more than 400.");
        x = new UpRiver();
        for (int i = 0; i < 50; i++) {
            x.feed(0x2020202020202020L);
        }
        Checks.due("to 408", x.feed(0L), Checks.FULL);
        Checks.due("still 400", x.count(5), 400);
        x.end(393);
        Checks.due("to 401", x.feed(0L), Checks.FULL);
        Checks.due("still 393", x.count(5), 393);
        x.end(392);
        Checks.due("to 400", x.feed(0x2020202020202020L), 400);
        Checks.due("nothing of what was refused is there", x.text(), 0);
    }

    private static void end() {
        Checks.sentence("3.keeps", "THE TAPE keeps its first n bytes");
        UpRiver x = new UpRiver();
        Checks.feedText(x, "lee 0;zz");
        x.end(6);
        Checks.due("the last two are gone", x.text(), 1);
        Checks.feedText(x, "lee 0;zz");
        x.end(0);
        Checks.due("all are gone", x.text(), 0);
        Checks.feedText(x, "zzzzzzzz");
        x.end(0);
        x.feed(0x6c656520303b2020L);
        Checks.due("what was cut off does not come back", x.text(), 1);

        Checks.sentence("3.had", "how many it had");
        Checks.feedText(x, "lee 0;  ");
        Checks.due("end(8) of 8", x.end(8), 8);
        Checks.due("end(6) of 8", x.end(6), 8);
        Checks.due("end(0) of 6", x.end(0), 6);
        Checks.due("end(0) of 0", x.end(0), 0);

        Checks.sentence("3.bad", "BAD (n above that, too).");
        Checks.allAre(Checks.BAD, "end of an empty tape", x::end, 1, -1, 400, Checks.LEAST, Checks.MOST);
        Checks.feedText(x, "lee 0;  ");
        Checks.allAre(Checks.BAD, "end of 8", x::end, 9, -1, 400, 401, Checks.LEAST, Checks.MOST);
        x.end(6);
        Checks.due("end(7) of 6", x.end(7), Checks.BAD);
        Checks.due("still 6", x.count(5), 6);
    }

    // ---- tokens

    private static void tapePlaces() {
        Checks.sentence("T1.tape", "THE TAPE has 400 bytes, places from 0.");
        Checks.faulty(".", 1, 0);
        Checks.faulty(" ".repeat(399) + ".", 1, 399);
        Checks.faulty(" ".repeat(396) + "dark", 2, 400);
        Checks.taken(" ".repeat(394) + "lee 0;");
        Checks.faulty(" ".repeat(394) + "lee 6;", 5, 400);
        Checks.faulty(" ".repeat(397) + "123", 2, 397);
    }

    private static void blanks() {
        Checks.sentence("T1.blanks", "blanks (32) ahead, between, behind, as many as wanted");
        Checks.taken("  lee  0  ;  ");
        Checks.taken(" ".repeat(100) + "lee" + " ".repeat(100) + "0" + " ".repeat(100) + ";" + " ".repeat(90));
        Checks.taken(" ".repeat(400));
        for (int sign : new int[] {0, 9, 10, 13, 31, 33, 160, 255}) {
            Checks.faulty("lee " + (char) sign + "0;", 1, 4);
        }
        Checks.sentence("T1.between", "(at least one between two NAMES, between two NUMBERS; else none is needed)");
        Checks.faulty("leelee 0;", 2, 0);
        Checks.faulty("lee lee 0;", 2, 4);
        Checks.faulty("eddy 11;", 3, 5);
        Checks.taken("eddy 1 1;");
        Checks.faulty("eddy 1;", 2, 6);
        Checks.taken("eddy1 1;lee0;wind0 2;dark1;");
        Checks.faulty("lee0lee1;", 2, 4);
    }

    private static void names() {
        Checks.sentence("T1.long", "TOKENS, each as long as may be");
        Checks.faulty("leee 0;", 2, 0);
        Checks.faulty("le 0;", 2, 0);
        Checks.faulty("le e 0;", 2, 0);
        Checks.faulty("reache 2;", 2, 0);
        Checks.faulty("reachess 2;", 2, 0);
        UpRiver x = Checks.river("dark 123;");
        Checks.due("123, not 12, not 1", x.rule(6), 123);
        Checks.faulty("dark 1 23;", 2, 7);
        Checks.sentence("T1.names", "NAMES (a .. z)");
        Checks.faulty("a", 2, 0);
        Checks.faulty("z", 2, 0);
        Checks.faulty("lee a", 2, 4);
        Checks.faulty("lee z", 2, 4);
        Checks.faulty("lee `", 1, 4);
        Checks.faulty("lee {", 1, 4);
        Checks.faulty("lee A", 1, 4);
        Checks.faulty("lee Z", 1, 4);
        Checks.faulty("Lee 0;", 1, 0);
        Checks.faulty("leE 0;", 2, 0);
        Checks.faulty("lee" + (char) 228 + " 0;", 1, 3);
    }

    private static void numbers() {
        Checks.sentence("T1.numbers", "NUMBERS (1 to 3 figures)");
        Checks.due("one figure", Checks.river("dark 9;").rule(6), 9);
        Checks.due("two", Checks.river("dark 90;").rule(6), 90);
        Checks.due("three", Checks.river("dark 190;").rule(6), 190);
        Checks.due("three, two of them 0 ahead", Checks.river("dark 009;").rule(6), 9);
        Checks.due("000", Checks.river("shift 000;").rule(4), 0);
        Checks.due("300", Checks.river("dark 300;").rule(6), 300);
        Checks.faulty("dark 999;", 3, 5);
        Checks.faulty("dark 0009;", 1, 5);
        Checks.faulty("lee /", 1, 4);
        Checks.faulty("lee :", 1, 4);
        Checks.faulty("lee 0", 2, 5);
        Checks.faulty("lee 9", 3, 4);
        Checks.faulty("lee -1;", 1, 4);
        Checks.faulty("lee +1;", 1, 4);
    }

    private static void otherSigns() {
        Checks.sentence("T1.sign", "the sign ; (a point is none)");
        Checks.faulty("lee 0.", 1, 5);
        Checks.faulty("lee 0,", 1, 5);
        Checks.faulty("lee 0;.", 1, 6);
        Checks.faulty("lee.0;", 1, 3);
        Checks.taken("lee 0 ;");
        for (int sign = 0; sign < 256; sign++) {
            boolean letter = sign >= 'a' && sign <= 'z';
            boolean figure = sign >= '0' && sign <= '9';
            if (sign == ' ') {
                Checks.taken(" ");
            } else {
                Checks.faulty(Character.toString(sign), letter || figure || sign == ';' ? 2 : 1, 0);
            }
        }
    }

    // ---- lines, numbers

    private static void lines() {
        Checks.sentence("T1.lines", "text: { line } line: reaches N ; | beat N ; | draught N ; | point N ; | shift N ; | turn N ; | dark N ;"
                + " | bank N N N ; | deep N N N ; | eddy N N ; | lee N ; | wind N N ; | tide N (12 times) ; | high N (12 times) ;");
        Checks.due("no line", Checks.tell(new UpRiver(), ""), 0);
        for (String line : LINES) {
            String body = line.substring(0, line.length() - 1);
            int last = body.lastIndexOf(' ');
            Checks.taken(line);
            Checks.taken("  " + line + " ");
            Checks.faulty(body.substring(0, last) + ";", 2, last);
            Checks.faulty(body + " 0;", 2, body.length() + 1);
            Checks.faulty(body, 2, body.length());
            Checks.faulty(body + " lee 0;", 2, body.length() + 1);
            Checks.faulty(body.substring(0, last) + " x;", 2, last + 1);
            Checks.faulty(line + ";", 2, line.length());
            Checks.faulty(line + "0", 2, line.length());
            Checks.faulty("q" + line.substring(1), 2, 0);
            Checks.faulty(line.replaceFirst(". ", "q "), 2, 0);
        }
        Checks.taken(String.join("", LINES));
    }

    /** A number with these ahead of it and behind it in its line may be from least to most. */
    private static void bound(String ahead, String behind, int least, int most) {
        String[] good = {ahead + least + behind + ";", ahead + most + behind + ";"};
        for (String line : good) {
            Checks.taken(line);
        }
        if (least > 0) {
            Checks.faulty(ahead + (least - 1) + behind + ";", 3, ahead.length());
            Checks.faulty(ahead + 0 + behind + ";", 3, ahead.length());
        }
        Checks.faulty(ahead + (most + 1) + behind + ";", 3, ahead.length());
        Checks.faulty(ahead + 999 + behind + ";", 3, ahead.length());
    }

    private static void bounds() {
        Checks.sentence("T1.reaches", "0 reaches (2 to 8; 6)");
        bound("reaches ", "", 2, 8);
        Checks.sentence("T1.beat", "1 beat (5 to 120; 30)");
        bound("beat ", "", 5, 120);
        Checks.sentence("T1.draught", "2 draught (1 to 20; 6)");
        bound("draught ", "", 1, 20);
        Checks.sentence("T1.point", "3 point (1 to 8; 4)");
        bound("point ", "", 1, 8);
        Checks.sentence("T1.shift", "4 shift (0 to 8; 2)");
        bound("shift ", "", 0, 8);
        Checks.sentence("T1.turn", "5 turn (1 to 9; 2)");
        bound("turn ", "", 1, 9);
        Checks.sentence("T1.dark", "6 dark (1 to 300; 300)");
        bound("dark ", "", 1, 300);
        Checks.sentence("T1.bank", "bank: a REACH (0 to 7), low, high (0 to 8, no less).");
        bound("reaches 8;bank ", " 0 0", 0, 7);
        bound("bank 0 ", " 8", 0, 8);
        bound("bank 0 0 ", "", 0, 8);
        bound("bank 0 5 ", "", 5, 8);
        bound("bank 0 8 ", "", 8, 8);
        Checks.sentence("T1.deep", "deep: a REACH, a LANE, DEPTH.");
        bound("reaches 8;deep ", " 0 0", 0, 7);
        bound("deep 0 ", " 0", 0, 8);
        bound("deep 0 0 ", "", 0, 30);
        Checks.sentence("T1.eddy", "eddy: a REACH, a LANE.");
        bound("reaches 8;eddy ", " 0", 0, 7);
        bound("eddy 0 ", "", 0, 8);
        Checks.sentence("T1.lee", "lee: a REACH.");
        bound("reaches 8;lee ", "", 0, 7);
        Checks.sentence("T1.wind", "wind: a REACH, WIND.");
        bound("reaches 8;wind ", " 0", 0, 7);
        bound("wind 0 ", "", 0, 2);
    }

    private static void phaseBounds() {
        for (int p = 0; p < 12; p++) {
            String zeros = " 0".repeat(p);
            String rest = " 0".repeat(11 - p);
            Checks.sentence("T1.tide", "tide: STREAM by PHASES (0 to 18; 9 is none).");
            bound("tide" + zeros + " ", rest, 0, 18);
            UpRiver x = Checks.river("beat 5;tide" + " 9".repeat(p) + " 0" + " 9".repeat(11 - p) + ";");
            for (int q = 0; q < 12; q++) {
                Checks.due("the stream of phase " + q, x.flow(0, 4, 5 * q), q == p ? -9 : 0);
            }
            Checks.sentence("T1.high", "high: HEIGHT.");
            bound("high" + zeros + " ", rest, 0, 15);
            x = Checks.river("high" + zeros + " 15" + rest + ";");
            for (int q = 0; q < 12; q++) {
                Checks.due("the height of phase " + q, x.rule(30 + q), q == p ? 15 : 0);
            }
        }
    }

    // ---- faults

    private static void noToken() {
        Checks.sentence("T1.fault1", "1 no TOKEN, a NUMBER that is too long (its first byte).");
        Checks.faulty("dark  .", 1, 6);
        Checks.faulty("dark 1000;", 1, 5);
        Checks.faulty("dark 0000;", 1, 5);
        Checks.faulty("dark 12345678901234567890;", 1, 5);
        Checks.faulty("dark 1234", 1, 5);
        Checks.faulty("   1234", 1, 3);
        Checks.faulty("dark 5 5555;", 1, 7);
        Checks.faulty("bank 0 0 0000;", 1, 9);
    }

    private static void misplaced() {
        Checks.sentence("T1.fault2", "2 a TOKEN that can not stand there (a NAME that begins no line; or the end: the length).");
        Checks.faulty("zoo 1;", 2, 0);
        Checks.faulty("lee 0;zoo", 2, 6);
        Checks.faulty("7", 2, 0);
        Checks.faulty(" ;", 2, 1);
        Checks.faulty("dark ;", 2, 5);
        Checks.faulty("dark dark", 2, 5);
        Checks.faulty("dark", 2, 4);
        Checks.faulty("dark   ", 2, 7);
        Checks.faulty("dark 5", 2, 6);
        Checks.faulty("dark 5  ", 2, 8);
        Checks.faulty("eddy 0 ", 2, 7);
        Checks.faulty("lee 0;dark", 2, 10);
    }

    private static void outOfBounds() {
        Checks.sentence("T1.fault3", "3 a NUMBER out of its bounds.");
        Checks.faulty("bank 0 3 2", 3, 9);
        Checks.faulty("bank 8", 3, 5);
        Checks.faulty("wind 0 3", 3, 7);
        Checks.faulty("deep 0 0   31;", 3, 11);
        Checks.faulty("dark 301;", 3, 5);
        Checks.faulty("dark 000;", 3, 5);
    }

    private static void secondTime() {
        Checks.sentence("T1.fault4.reach", "4 bank, lee, wind of a REACH for the second time (it)");
        Checks.faulty("bank 1 0 8;bank 1", 4, 16);
        Checks.faulty("bank 0 0 8;bank 1 0 8;bank 0", 4, 27);
        Checks.faulty("bank 7 0 8;bank 7", 4, 16);
        Checks.faulty("lee 1;lee 1;", 4, 10);
        Checks.faulty("lee 0;lee 1;lee   0", 4, 18);
        Checks.faulty("lee 7;lee 7", 4, 10);
        Checks.faulty("wind 1 0;wind 1 2", 4, 14);
        Checks.faulty("wind 0 1;wind 7 1;wind 7", 4, 23);
        Checks.sentence("T1.fault4.place", "deep, eddy of a place for the second time (its LANE)");
        Checks.faulty("deep 1 2 3;deep 1 2", 4, 18);
        Checks.faulty("deep 0 0 0;deep 7 8 0;deep 7 8", 4, 29);
        Checks.faulty("deep 0 0 0;deep 0 0 99", 4, 18);
        Checks.faulty("eddy 1 2;eddy 1   2;", 4, 18);
        Checks.faulty("eddy 7 8;eddy 0 0;eddy 0 0", 4, 25);
        Checks.faulty("eddy 7 8;eddy 0 0;eddy 7 8", 4, 25);
        Checks.sentence("T1.fault4.name", "any other line for the second time (its NAME)");
        for (String line : LINES) {
            String name = line.substring(0, line.indexOf(' '));
            if (line.indexOf(' ') == line.lastIndexOf(' ') && !name.equals("lee") || name.equals("tide") || name.equals("high")) {
                Checks.faulty(line + " " + name, 4, line.length() + 1);
                Checks.faulty(line + "lee 0;" + name + " 999", 4, line.length() + 6);
            }
        }
    }

    private static void notTheSecondTime() {
        Checks.sentence("T1.fault4.other", "deep, eddy of a place for the second time (its LANE)");
        Checks.taken("bank 0 0 8;lee 0;wind 0 0;deep 0 0 0;eddy 0 0;");
        Checks.taken("reaches 8;bank 0 0 8;bank 7 0 8;lee 0;lee 7;wind 0 0;wind 7 0;bank 1 0 8;lee 1;wind 1 0;");
        Checks.taken("deep 0 8 0;deep 1 0 0;deep 0 0 0;deep 1 8 0;eddy 0 8;eddy 1 0;eddy 0 0;eddy 1 8;");
        Checks.taken("reaches 8;deep 7 8 0;eddy 7 8;deep 7 7 0;eddy 7 7;deep 6 8 0;eddy 6 8;");
        Checks.taken("dark 1;beat 5;turn 1;");
    }

    private static void noSuchReach() {
        Checks.sentence("T1.fault5", "Behind all (the length): 5 a REACH that there is not was told.");
        String[] ahead = {"bank ", "deep ", "eddy ", "lee ", "wind "};
        String[] behind = {" 0 8;", " 0 0;", " 0;", ";", " 0;"};
        for (int i = 0; i < ahead.length; i++) {
            for (int reaches = 2; reaches <= 7; reaches++) {
                String rule = "reaches " + reaches + ";";
                Checks.taken(rule + ahead[i] + (reaches - 1) + behind[i]);
                String line = rule + ahead[i] + reaches + behind[i];
                Checks.faulty(line, 5, line.length());
                Checks.faulty(line + "  ", 5, line.length() + 2);
                line = ahead[i] + 7 + behind[i] + rule;
                Checks.faulty(line, 5, line.length());
            }
            Checks.taken(ahead[i] + 7 + behind[i] + "reaches 8;");
            Checks.taken(ahead[i] + 5 + behind[i]);
            Checks.faulty(ahead[i] + 6 + behind[i], 5, (ahead[i] + 6 + behind[i]).length());
        }
        Checks.faulty("lee 6;lee 0;", 5, 12);
    }

    private static void firstMet() {
        Checks.sentence("T1.firstmet", "FAULTS, the first met as it is read (a TOKEN is read when the one before has been taken)");
        Checks.faulty("zoo.", 2, 0);
        Checks.faulty("dark 0.", 3, 5);
        Checks.faulty("dark 0 0000", 3, 5);
        Checks.faulty("lee 1;lee 1.", 4, 10);
        Checks.faulty("deep 0 0 0;deep 0 0.", 4, 18);
        Checks.faulty("dark 1;dark.", 4, 7);
        Checks.faulty("dark 0001 0;", 1, 5);
        Checks.faulty("0001", 1, 0);
        Checks.faulty("deep 0 0 0;deep 0 9", 3, 18);
        Checks.faulty("lee 0;lee 0008", 1, 10);
        Checks.faulty("lee 6;.", 1, 6);
        Checks.faulty("lee 6;zoo", 2, 6);
        Checks.faulty("lee 6;dark 0;", 3, 11);
        Checks.faulty("lee 6;lee 6;", 4, 10);
        Checks.faulty("bank 0 9 .", 3, 7);
        Checks.faulty("lee 7 7;", 2, 6);
    }

    // ---- promises 4 and 5

    private static void textEmptiesTape() {
        Checks.sentence("4.empty", "THE TAPE (empty then, by a FAULT, too) tells all");
        for (String text : new String[] {"lee 0;", "", "lee 9;", ".", "lee 6;", "lee", "lee 0;lee 0;"}) {
            UpRiver x = new UpRiver();
            Checks.tell(x, text);
            Checks.due("bytes behind '" + text + "'", x.count(5), 0);
            Checks.due("the next text begins at 0", Checks.tell(x, "lee 1;"), 1);
            Checks.due("its lee", x.reach(1, 2), 1);
        }
    }

    private static void textCountsLines() {
        Checks.sentence("4.lines", "how many lines");
        Checks.due("none", Checks.tell(new UpRiver(), "   "), 0);
        StringBuilder b = new StringBuilder("reaches8;");
        for (int r = 0; r < 8; r++) {
            b.append("lee").append(r).append(';');
        }
        for (int i = 0; i < 43; i++) {
            b.append("eddy").append(i / 9).append(' ').append(i % 9).append(';');
        }
        UpRiver x = new UpRiver();
        Checks.due("as many as the tape can hold", Checks.tell(x, b.toString()), 52);
        Checks.due("eddies", x.count(2), 43);
        Checks.due("lees", x.count(3), 8);

        Checks.sentence("4.fault", "-10 less the place of its FAULT: that which was told stays");
        x = Checks.river("reaches 3;bank 0 2 6;");
        x.sail(2);
        x.logged(0, 1);
        x.swing(1);
        x.keep(1);
        UpRiver twin = Checks.river("reaches 3;bank 0 2 6;");
        twin.sail(2);
        twin.logged(0, 1);
        twin.swing(1);
        twin.keep(1);
        Checks.due("a fault at 0", Checks.tell(x, "."), -10);
        Checks.due("a fault behind lines that are whole", Checks.tell(x, "reaches 8;dark 7;lee 0;."), -33);
        Checks.due("a fault behind all", Checks.tell(x, "lee 7;reaches 7;"), -26);
        Checks.due("all stays", Checks.seenButFault(x), Checks.seenButFault(twin));
    }

    private static void textTellsAll() {
        Checks.sentence("T1.taken", "A text that is taken tells all, in place of what there was (what it does not tell is as at first)");
        String everything = "reaches 7;beat 9;draught 3;point 5;shift 4;turn 6;dark 77;bank 0 3 6;deep 0 4 9;eddy 0 4;lee 1;wind 2 0;wind 3 2;"
                + Checks.twelve("tide", 3) + Checks.twelve("high", 4);
        UpRiver x = Checks.river(everything);
        Checks.due("told", x.rule(0) * 100 + x.reach(0, 14) * 10 + x.reach(0, 24), 791);
        Checks.due("text of nothing", x.text(), 0);
        Checks.due("all as at first", Checks.seen(x), Checks.seen(new UpRiver()));
        x = Checks.river(everything);
        Checks.tell(x, "lee 5;");
        Checks.due("all but that", Checks.seen(x), Checks.seen(Checks.river("lee 5;")));
        x = Checks.river("reaches 8;lee 7;bank 0 0 1;");
        Checks.tell(x, everything);
        Checks.due("and again", Checks.seen(x), Checks.seen(Checks.river(everything)));
        x = Checks.river("reaches 2;");
        Checks.due("a start", x.from(0) * 1000 + x.from(300 - 4), 4300);
        Checks.tell(x, "reaches 3;");
        Checks.due("a start on another river", x.from(0) * 1000 + x.from(300 - 4), 6000 + Checks.NONE);

        Checks.sentence("T1.boat", "THE BOAT lies at the start, MINUTE 0; nothing LOGGED, no SWINGS; IMAGES are gone; SHEETS stay.");
        x = Checks.river("reaches 2;");
        x.sail(1);
        x.turn();
        x.logged(0, 1);
        x.logged(2, 9);
        x.swing(1);
        x.keep(0);
        x.keep(1);
        x.sail(1);
        x.sheet(0, 2, 40);
        x.lay(0, 38, 6);
        x.lay(0, 39, 300);
        Checks.due("taken", Checks.tell(x, "bank 0 3 6;"), 1);
        Checks.due("the low lane, minute 0", Checks.boat(x), "0 0 3 0 1 0 0 0");
        Checks.due("nothing logged", x.count(0), 0);
        Checks.due("no swings", x.count(1), 0);
        Checks.due("no images", x.count(4), 0);
        Checks.due("not the first", x.back(0), Checks.STATE);
        Checks.due("nor the second", x.back(1), Checks.STATE);
        Checks.due("the sheet", x.count(6), 40);
        Checks.due("its cells", x.read(0, 2, 38, 1), 1);
        UpRiver up = Checks.river("reaches 2;");
        up.sail(4);
        Checks.due("she was up", up.now(5), 1);
        up.text();
        Checks.due("and is at the start", Checks.boat(up), "0 0 0 0 1 0 0 0");
    }

    private static void fault() {
        Checks.sentence("5.latest", "The FAULT of the latest text(); 0.");
        UpRiver x = new UpRiver();
        Checks.due("none yet", x.fault(), 0);
        String[] texts = {".", "lee", "lee 9;", "lee 0;lee 0;", "lee 6;"};
        for (int i = 0; i < texts.length; i++) {
            Checks.tell(x, texts[i]);
            Checks.due("of '" + texts[i] + "'", x.fault(), i + 1);
            x.feed(0L);
            x.end(0);
            x.end(9);
            x.sail(0);
            Checks.due("other calls leave it", x.fault(), i + 1);
        }
        Checks.tell(x, "lee 0;");
        Checks.due("none again", x.fault(), 0);
        Checks.tell(x, ".");
        x.text();
        Checks.due("none of an empty one", x.fault(), 0);
    }
}
