/** The edges of images and sheets: promises 33 to 39 and their terms. */
public final class SheetEdgesTest {
    public static void main(String[] args) {
        all();
        Checks.finish();
    }

    static void all() {
        keep();
        keepHoldsAll();
        keepHoldsItsOwn();
        back();
        backLeavesTheRest();
        sheetsAtFirst();
        sheetSigns();
        faultsOfTheMachine();
        sheet();
        sheetRefused();
        lay();
        layRefused();
        read();
        readTorn();
        readNone();
        readRefused();
        readBad();
        torn();
        count();
    }

    // ---- images

    private static void keep() {
        Checks.sentence("33.was", "whether there was one (1, 0)");
        UpRiver x = new UpRiver();
        Checks.due("image 1", x.keep(1), 0);
        Checks.due("image 1 again", x.keep(1), 1);
        Checks.due("image 0", x.keep(0), 0);
        Checks.due("image 0 again", x.keep(0), 1);
        Checks.due("two images", x.count(4), 2);
        x.text();
        Checks.due("gone with a text", x.keep(0), 0);
        Checks.sentence("33.bad", "whether there was one (1, 0). BAD.");
        UpRiver y = new UpRiver();
        Checks.allAre(Checks.BAD, "keep", y::keep, -1, 2, Checks.LEAST, Checks.MOST);
        Checks.due("no image", y.count(4), 0);
    }

    private static void keepHoldsAll() {
        Checks.sentence("33.image", "IMAGE i (0, 1) is THE BOAT, MINUTE, TURNS, what was LOGGED, SWINGS");
        for (int i = 0; i <= 1; i++) {
            UpRiver x = Checks.river("reaches 8;");
            x.sail(8);
            x.turn();
            for (int r = 0; r <= 8; r++) {
                x.logged(r, 9 * r + 1);
            }
            for (int n = 0; n < 40; n++) {
                x.swing(n % 3 == 0 ? 2 : 1);
            }
            String was = voyage(x);
            x.keep(i);
            x.keep(1 - i);
            x.sail(3);
            x.turn();
            x.keep(1 - i);
            Checks.due("as it was", x.back(i), 10);
            Checks.due("all of it", voyage(x), was);
            Checks.due("the log is as full", x.logged(8, 300), Checks.BAD);
            Checks.due("the swings are as many", x.swing(0), Checks.FULL);
        }
        UpRiver x = Checks.river("reaches 2;");
        x.sail(4);
        x.keep(0);
        x.set(0, 0, 0, 0);
        x.logged(0, 0);
        x.swing(0);
        Checks.due("up, nothing logged, no swings", x.back(0), 4);
        Checks.due("up", Checks.boat(x), "4 16 3 0 1 1 0 4");
        Checks.due("nothing logged, no swings", x.count(0) + x.count(1), 0);
    }

    /** Another voyage on the same rows must not shine through. */
    private static void keepHoldsItsOwn() {
        Checks.sentence("33.own", "IMAGE i (0, 1) is THE BOAT, MINUTE, TURNS, what was LOGGED, SWINGS");
        UpRiver x = new UpRiver();
        x.keep(0);
        for (int i = 0; i < 3; i++) {
            x.logged(i, 10 * i + 1);
            x.swing(i < 2 ? 1 : 0);
        }
        x.swing(0);
        x.keep(1);
        x.back(0);
        for (int i = 0; i < 3; i++) {
            x.logged(i + 3, 10 * i + 9 * i + 5);
            x.swing(i);
        }
        x.swing(0);
        Checks.due("another log", x.lost(0), 17);
        Checks.due("other swings", x.judged(1), 0);
        Checks.due("back", x.back(1), 0);
        Checks.due("its log", x.lost(0) * 10 + x.lost(1), 80);
        Checks.due("its latest reach", x.logged(2, 300), Checks.BAD);
        Checks.due("its latest minute", x.logged(3, 21), Checks.BAD);
        Checks.due("behind them", x.logged(3, 22), 4);
        Checks.due("its swings", x.judged(1) * 10 + x.judged(2), 20);
        x.back(1);
        Checks.due("it is not changed by what came behind", x.count(0) * 10 + x.count(1), 34);
        Checks.due("nor is its log", x.logged(3, 22), 4);
    }

    private static String voyage(UpRiver x) {
        StringBuilder b = new StringBuilder(Checks.boat(x));
        for (int n = 1; n <= 20; n++) {
            b.append(' ').append(x.judged(n));
        }
        return b.append(", ").append(x.count(0)).append(' ').append(x.count(1)).append(' ').append(x.lost(0)).append(' ').append(x.lost(1)).toString();
    }

    private static void back() {
        Checks.sentence("34.back", "All is as IMAGE i: the MINUTE.");
        UpRiver x = new UpRiver();
        x.sail(1);
        x.logged(0, 1);
        x.keep(0);
        x.sail(1);
        x.logged(1, 3);
        x.swing(1);
        x.keep(1);
        Checks.due("the first", x.back(0), 1);
        Checks.due("its log", x.count(0) * 10 + x.count(1), 10);
        Checks.due("the next logged is behind its latest", x.logged(1, 2), 2);
        Checks.due("the second", x.back(1), 2);
        Checks.due("its log", x.count(0) * 10 + x.count(1), 21);
        Checks.due("the next logged is behind its latest", x.logged(2, 3), Checks.BAD);
        Checks.due("the first is what it was", x.back(0), 1);
        Checks.due("its log", x.count(0) * 10 + x.count(1), 10);
        x.set(0, 0, 0, 300);
        x.keep(0);
        x.set(0, 0, 0, 0);
        Checks.due("minute 300", x.back(0), 300);
        Checks.due("again and again", x.back(0), 300);
        Checks.sentence("34.refused", "BAD; STATE: there is none.");
        UpRiver y = new UpRiver();
        Checks.allAre(Checks.BAD, "back", y::back, -1, 2, Checks.LEAST, Checks.MOST);
        Checks.due("none", y.back(0), Checks.STATE);
        y.keep(1);
        Checks.due("none", y.back(0), Checks.STATE);
        Checks.due("one", y.back(1), 0);
        y.text();
        Checks.due("none any more", y.back(1), Checks.STATE);
    }

    private static void backLeavesTheRest() {
        Checks.sentence("34.rest", "IMAGE i (0, 1) is THE BOAT, MINUTE, TURNS, what was LOGGED, SWINGS");
        UpRiver x = new UpRiver();
        x.keep(0);
        x.sheet(0, 1, 7);
        x.read(3, 0, 0, 1);
        Checks.tell(x, ".");
        x.feed(0L);
        x.back(0);
        Checks.due("sheets are in no image", x.count(6), 7);
        Checks.due("nor what was torn", x.torn(), 1);
        Checks.due("nor a fault", x.fault(), 1);
        Checks.due("nor the tape", x.count(5), 8);
        Checks.due("images stay", x.count(4), 1);
    }

    // ---- sheets

    private static void sheetsAtFirst() {
        Checks.sentence("T2.sheets", "SHEETS 0 to 3 are rows of BYTES (lane 0), SHORTS (1), INTS (2), all with a sign, with 0 to 40 CELLS, or nothing (at first).");
        UpRiver x = new UpRiver();
        for (int k = 0; k <= 3; k++) {
            for (int lane = 0; lane <= 2; lane++) {
                UpRiver y = new UpRiver();
                Checks.due("nothing at first", y.lay(k, 0, 0), -11);
                for (int n = 0; n <= 40; n++) {
                    Checks.due("a row of " + n, y.sheet(k, lane, n), 1);
                    Checks.due("the last cell", y.lay(k, n - 1, 0), n == 0 ? -12 : 1);
                    Checks.due("no cell more", y.lay(k, n, 0), -12);
                }
                Checks.due("no row of 41", y.sheet(k, lane, 41), Checks.BAD);
            }
            x.sheet(k, 0, k + 1);
        }
        for (int k = 0; k <= 3; k++) {
            Checks.due("each is its own", x.lay(k, k, 0), 1);
            Checks.due("each is its own", x.lay(k, k + 1, 0), -12);
        }
    }

    /** A cell is seen by the minute that it logs. */
    private static int minuteRead(int lane, int laid) {
        UpRiver x = new UpRiver();
        x.sheet(2, lane, 2);
        x.lay(2, 1, laid);
        if (x.read(2, lane, 0, 1) != 1) {
            return Checks.BAD;
        }
        for (int t = 0; t <= 300; t++) {
            if (x.logged(1, t) > 0) {
                return t - 1;
            }
        }
        return 300;
    }

    private static void sheetSigns() {
        Checks.sentence("36.bits", "CELL i of a SHEET becomes v (its lowest bits)");
        int[][] want = {{0, 127, 127}, {0, 128, Checks.BAD}, {0, 255, Checks.BAD}, {0, 256, 0}, {0, 256 + 127, 127}, {0, -256, 0}, {0, -129, 127}, {0, -1, Checks.BAD},
            {0, -128, Checks.BAD}, {0, Checks.LEAST, 0}, {0, Checks.MOST, Checks.BAD}, {0, 300, 44},
            {1, 128, 128}, {1, 300, 300}, {1, 301, Checks.BAD}, {1, 32767, Checks.BAD}, {1, 32768, Checks.BAD}, {1, 65535, Checks.BAD}, {1, 65536, 0},
            {1, 65536 + 300, 300}, {1, -65536 + 9, 9}, {1, -1, Checks.BAD}, {1, Checks.LEAST, 0}, {1, Checks.MOST, Checks.BAD},
            {2, 300, 300}, {2, 301, Checks.BAD}, {2, 256, 256}, {2, 65536, Checks.BAD}, {2, 65536 + 9, Checks.BAD}, {2, -1, Checks.BAD},
            {2, Checks.LEAST, Checks.BAD}, {2, Checks.MOST, Checks.BAD}};
        for (int[] w : want) {
            Checks.due(w[1] + " in lane " + w[0], minuteRead(w[0], w[1]), w[2]);
        }
    }

    private static void faultsOfTheMachine() {
        Checks.sentence("T2.faults", "A FAULT is what the machine finds: 1 NULL (nothing), 2 INDEX, 3 CAST (another lane), 4 SIZE (below 0).");
        UpRiver x = new UpRiver();
        x.read(0, 0, 0, 1);
        Checks.due("null", x.torn(), 1);
        Checks.due("null", x.lay(0, 0, 0), -11);
        x.read(0, 2, -1, 1);
        Checks.due("null, whatever the lane and the cell", x.torn(), 1);
        Checks.due("null, whatever the cell", x.lay(0, -1, 0), -11);
        x.sheet(0, 0, 3);
        x.read(0, 0, 3, 1);
        Checks.due("index", x.torn(), 2);
        Checks.due("index", x.lay(0, 3, 0), -12);
        for (int lane = 0; lane <= 2; lane++) {
            x.sheet(1, lane, 0);
            for (int as = 0; as <= 2; as++) {
                x.read(1, as, 0, 1);
                Checks.due("cast, ahead of index", x.torn(), as == lane ? 2 : 3);
            }
        }
        Checks.due("size", x.sheet(0, 0, -1), -14);
    }

    private static void sheet() {
        Checks.sentence("35.new", "A SHEET is a new row of CELLS 0: 1.");
        UpRiver x = new UpRiver();
        Checks.due("a sheet", x.sheet(0, 2, 40), 1);
        for (int i = 0; i < 40; i++) {
            x.lay(0, i, 7);
        }
        Checks.due("of 7", x.read(0, 2, 38, 1), -20);
        Checks.due("a new one", x.sheet(0, 2, 40), 1);
        for (int i = 0; i < 40; i += 2) {
            Checks.due("of 0", x.read(0, 2, i, 1), 1);
            x.text();
        }
        x.sheet(0, 2, 2);
        x.lay(0, 0, 6);
        x.lay(0, 1, 9);
        x.sheet(0, 0, 1);
        x.sheet(0, 2, 2);
        Checks.due("not what was laid two rows ago", minuteOf(x), 0);
        Checks.due("a row of none", x.sheet(0, 0, 0), 1);
        Checks.due("a row of none", x.count(6), 0);
    }

    private static int minuteOf(UpRiver x) {
        x.read(0, 2, 0, 1);
        return x.logged(1, 1) == 2 ? 0 : Checks.BAD;
    }

    private static void sheetRefused() {
        Checks.sentence("35.bad", "BAD: also n above 40; -14 (SIZE): n below 0.");
        UpRiver x = new UpRiver();
        x.sheet(0, 1, 7);
        Checks.allAre(Checks.BAD, "k", k -> x.sheet(k, 0, 1), -1, 4, Checks.LEAST, Checks.MOST);
        Checks.allAre(Checks.BAD, "lane", lane -> x.sheet(0, lane, 1), -1, 3, Checks.LEAST, Checks.MOST);
        Checks.allAre(Checks.BAD, "n", n -> x.sheet(0, 0, n), 41, 100, Checks.MOST);
        Checks.allAre(-14, "n", n -> x.sheet(0, 0, n), -1, -40, Checks.LEAST);
        Checks.due("no such k ahead of size", x.sheet(4, 0, -1), Checks.BAD);
        Checks.due("no such lane ahead of size", x.sheet(0, 3, -1), Checks.BAD);
        Checks.due("the row stays", x.count(6), 7);
        x.read(0, 1, 0, 0);
        x.read(0, 1, 0, 1);
        Checks.due("of its lane", x.torn(), 0);
    }

    private static void lay() {
        Checks.sentence("36.lay", "CELL i of a SHEET becomes v (its lowest bits): 1.");
        UpRiver x = new UpRiver();
        x.sheet(3, 2, 40);
        for (int i = 0; i < 40; i++) {
            Checks.due("cell " + i, x.lay(3, i, i % 2 == 0 ? 1 : i), 1);
        }
        for (int i = 0; i < 40; i += 2) {
            Checks.due("reach 1, minute " + (i + 1), x.read(3, 2, i, 1), 1);
            Checks.due("no sooner", x.logged(2, i + 1), Checks.BAD);
            Checks.due("a minute later", x.logged(2, i + 2), 2);
            x.text();
        }
        Checks.due("laid again", x.lay(3, 1, 50), 1);
        x.read(3, 2, 0, 1);
        Checks.due("the newer", x.logged(2, 50), Checks.BAD);
    }

    private static void layRefused() {
        Checks.sentence("36.bad", "BAD: k; -10 less the FAULT: NULL, INDEX.");
        UpRiver x = new UpRiver();
        x.sheet(0, 0, 40);
        x.sheet(1, 0, 0);
        Checks.allAre(Checks.BAD, "k", k -> x.lay(k, 0, 0), -1, 4, Checks.LEAST, Checks.MOST);
        Checks.allAre(-11, "nothing, cell", i -> x.lay(2, i, 0), 0, -1, 40, Checks.LEAST, Checks.MOST);
        Checks.allAre(-12, "cell", i -> x.lay(0, i, 0), -1, 40, 41, Checks.LEAST, Checks.MOST);
        Checks.allAre(-12, "cell of none", i -> x.lay(1, i, 0), -1, 0, 1, 39);
    }

    // ---- a log read from a sheet

    private static UpRiver laid(String text, int k, int lane, int... cells) {
        UpRiver x = Checks.river(text);
        x.sheet(k, lane, cells.length);
        for (int i = 0; i < cells.length; i++) {
            x.lay(k, i, cells[i]);
        }
        return x;
    }

    private static void read() {
        Checks.sentence("37.read", "n (0 to 12) LOGGED (REACH, MINUTE) are read of a SHEET taken as of a lane, two CELLS each from CELL f on,"
                + " one behind another as by logged(): how many came.");
        for (int lane = 0; lane <= 2; lane++) {
            UpRiver x = laid("reaches 8;", 3, lane, 0, 0, 1, 10, 2, 20, 3, 30, 4, 40, 5, 50, 6, 60, 7, 70, 8, 80);
            Checks.due("nine", x.read(3, lane, 0, 9), 9);
            Checks.due("nine are there", x.count(0), 9);
            Checks.due("no fault", x.torn(), 0);
            Checks.due("as by logged(): ten each, two could be", x.lost(0) * 10 + x.lost(1), 80);
            x.text();
        }
        UpRiver x = laid("", 0, 1, 9, 0, 1, 2, 5, 3, 9);
        Checks.due("from cell 1: one", x.read(0, 1, 1, 1), 1);
        Checks.due("it is 0, 1", x.logged(1, 2), 2);
        x = laid("", 0, 1, 9, 0, 1, 2, 5, 3, 9);
        Checks.due("from cell 1: three", x.read(0, 1, 1, 3), 3);
        Checks.due("the last is 3, 9", x.logged(4, 9), Checks.BAD);
        Checks.due("the last is 3, 9", x.logged(4, 10), 4);
        x = laid("", 0, 0, 2, 9);
        x.logged(1, 8);
        Checks.due("behind what there is", x.read(0, 0, 0, 1), 1);
        Checks.due("two", x.count(0), 2);
    }

    private static void readTorn() {
        Checks.sentence("37.torn", "What the machine refuses: those that were whole ahead come (its FAULT is asked by torn()");
        UpRiver x = laid("", 0, 0, 0, 1, 1, 2, 2, 3);
        Checks.due("three of twelve", x.read(0, 0, 0, 12), 3);
        Checks.due("index", x.torn(), 2);
        Checks.due("three", x.count(0), 3);
        x = laid("", 0, 0, 0, 1, 1, 2, 2);
        Checks.due("half a one is not whole", x.read(0, 0, 0, 3), 2);
        Checks.due("index", x.torn(), 2);
        Checks.due("two", x.count(0), 2);
        for (int f : new int[] {-1, -2, 4, 5, 40, 41, Checks.LEAST, Checks.LEAST + 1, Checks.MOST, Checks.MOST - 1}) {
            Checks.due("from cell " + f, x.read(0, 0, f, 12), 0);
            Checks.due("index", x.torn(), 2);
            x.read(0, 0, 0, 0);
        }
        x = laid("", 0, 0, 0, 1, 1, 2, 2);
        Checks.due("the second, and half a one", x.read(0, 0, 2, 12), 1);
        Checks.due("index", x.torn(), 2);
        x = laid("", 0, 0, 9, 9, 9);
        Checks.due("half a one is not looked at", x.read(0, 0, 2, 1), 0);
        Checks.due("another lane", x.read(0, 1, 0, 12), 0);
        Checks.due("cast", x.torn(), 3);
        Checks.due("nothing", x.read(1, 1, 0, 12), 0);
        Checks.due("null", x.torn(), 1);
        Checks.due("nothing came", x.count(0), 0);
    }

    private static void readNone() {
        Checks.sentence("37.none", "of n 0: 0, no FAULT, whatever the SHEET is)");
        UpRiver x = new UpRiver();
        x.sheet(1, 1, 0);
        x.read(0, 0, 0, 1);
        Checks.due("torn before", x.torn(), 1);
        Checks.due("of nothing", x.read(0, 0, 0, 0), 0);
        Checks.due("no fault", x.torn(), 0);
        x.read(1, 0, 0, 1);
        Checks.due("torn before", x.torn(), 3);
        Checks.due("of another lane", x.read(1, 0, 0, 0), 0);
        Checks.due("no fault", x.torn(), 0);
        x.read(1, 1, 0, 1);
        Checks.due("torn before", x.torn(), 2);
        Checks.due("from no cell", x.read(1, 1, Checks.LEAST, 0), 0);
        Checks.due("no fault", x.torn(), 0);
        Checks.due("no such sheet", x.read(4, 0, 0, 0), Checks.BAD);
        Checks.due("no such lane", x.read(0, 3, 0, 0), Checks.BAD);
    }

    private static void readRefused() {
        Checks.sentence("37.refused", "-20 less i (from 0 on): the i-th, whole, is refused by logged() (in whichever way): then none came; the first met.");
        Checks.due("no such reach", laid("reaches 2;", 0, 0, 3, 1).read(0, 0, 0, 1), -20);
        Checks.due("no such reach", laid("reaches 2;", 0, 0, -1, 1).read(0, 0, 0, 1), -20);
        Checks.due("no such minute", laid("reaches 2;", 0, 1, 0, 301).read(0, 1, 0, 1), -20);
        Checks.due("no such minute", laid("reaches 2;", 0, 1, 0, -1).read(0, 1, 0, 1), -20);
        UpRiver x = laid("", 0, 0, 0, 1, 1, 1, 2, 2);
        x.read(1, 0, 0, 1);
        Checks.due("the second, not later", x.read(0, 0, 0, 3), -21);
        Checks.due("none came", x.count(0), 0);
        Checks.due("torn stays", x.torn(), 1);
        x = laid("", 0, 0, 1, 1, 1, 2, 2, 3);
        Checks.due("the second, not above", x.read(0, 0, 0, 3), -21);
        x = laid("", 0, 0, 1, 5, 2, 6);
        x.logged(1, 3);
        Checks.due("the first, not above what was logged", x.read(0, 0, 0, 2), -20);
        Checks.due("one, as before", x.count(0), 1);
        Checks.due("what was logged stays the latest", x.logged(2, 4), 2);
        x = laid("", 0, 0, 0, 1, 1, 2, 9, 9, 9, 9);
        Checks.due("the first met of two", x.read(0, 0, 0, 4), -22);
        Checks.due("ahead of the index", x.read(0, 0, 0, 12), -22);
        Checks.due("none came", x.count(0), 0);
        Checks.due("those ahead of it alone", x.read(0, 0, 0, 2), 2);
        x = laid("reaches 8;", 3, 0, 0, 0, 1, 10, 2, 20, 3, 30, 4, 40, 5, 50, 6, 60, 7, 70, 8, 80, 8, 90, 0, 0, 0, 0);
        Checks.due("the tenth of twelve", x.read(3, 0, 0, 12), -29);
        Checks.due("none came", x.count(0), 0);
    }

    private static void readBad() {
        Checks.sentence("37.bad", "BAD: k, lane, n");
        UpRiver x = laid("", 0, 0, 0, 1, 1, 2);
        Checks.allAre(Checks.BAD, "k", k -> x.read(k, 0, 0, 1), -1, 4, Checks.LEAST, Checks.MOST);
        Checks.allAre(Checks.BAD, "lane", lane -> x.read(0, lane, 0, 1), -1, 3, Checks.LEAST, Checks.MOST);
        Checks.allAre(Checks.BAD, "n", n -> x.read(0, 0, 0, n), -1, 13, Checks.LEAST, Checks.MOST);
        Checks.due("none came", x.count(0), 0);
        Checks.due("twelve may be asked", x.read(0, 0, 0, 12), 2);
    }

    private static void torn() {
        Checks.sentence("38.latest", "The FAULT of the latest read() that answered 0 or more; 0 (one that is refused leaves it).");
        UpRiver x = laid("", 0, 0, 0, 1, 1, 1);
        Checks.due("none yet", x.torn(), 0);
        x.read(1, 0, 0, 1);
        Checks.due("null", x.torn(), 1);
        x.read(0, 0, 0, 2);
        Checks.due("a refused one leaves it", x.torn(), 1);
        x.read(0, 0, 0, 13);
        x.read(4, 0, 0, 1);
        x.read(0, 3, 0, 1);
        Checks.due("so does a bad one", x.torn(), 1);
        x.lay(0, 9, 0);
        x.sheet(0, 0, -1);
        Checks.due("so do faults of other calls", x.torn(), 1);
        x.read(0, 2, 0, 1);
        Checks.due("cast", x.torn(), 3);
        x.read(0, 0, 4, 1);
        Checks.due("index", x.torn(), 2);
        Checks.due("one that comes", x.read(0, 0, 0, 1), 1);
        Checks.due("none", x.torn(), 0);
        x.read(0, 0, 3, 2);
        Checks.due("index", x.torn(), 2);
        x.read(0, 0, 0, 0);
        Checks.due("none of none", x.torn(), 0);
    }

    private static void count() {
        Checks.sentence("39.many", "How many: 0 LOGGED, 1 SWINGS, 2 EDDIES, 3 LEES, 4 IMAGES, 5 bytes on THE TAPE, 6 CELLS of SHEET 0 (NONE: nothing).");
        UpRiver x = new UpRiver();
        int[] first = {0, 0, 0, 0, 0, 0, Checks.NONE};
        for (int what = 0; what < first.length; what++) {
            Checks.due("count " + what, x.count(what), first[what]);
        }
        x = Checks.river("lee 0;lee 3;lee 5;eddy 0 0;eddy 5 8;bank 5 0 2;");
        x.logged(0, 0);
        for (int i = 0; i < 4; i++) {
            x.swing(1);
        }
        x.keep(1);
        x.feed(0);
        x.sheet(1, 1, 18);
        Checks.due("sheet 1 is not sheet 0", x.count(6), Checks.NONE);
        x.sheet(0, 1, 17);
        int[] want = {1, 4, 2, 3, 1, 8, 17};
        for (int what = 0; what < want.length; what++) {
            Checks.due("count " + what, x.count(what), want[what]);
        }
        x.sheet(0, 1, 0);
        Checks.due("no cell", x.count(6), 0);
        Checks.sentence("39.bad", "6 CELLS of SHEET 0 (NONE: nothing). BAD.");
        Checks.allAre(Checks.BAD, "count", x::count, -1, 7, 8, Checks.LEAST, Checks.MOST);
    }
}
