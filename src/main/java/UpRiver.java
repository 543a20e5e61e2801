/** Up a river against the wind: the river by its text, the boat by hand, by a skipper, at the soonest. */
public final class UpRiver {
    public static final int BAD = -1, STATE = -2, FULL = -3, NONE = -4;

    // Answers of the calls whose ordinary answers reach below 0.
    private static final int SIGNED_BAD = -1000, SIGNED_NONE = -1001;

    private static final int LANES = 9, MOST_REACHES = 8, PLACES = 72, PHASES = 12;
    private static final int EIGHTHS = 8, LAST_MINUTE = 300, MOST_MARGIN = 20, MOST_DEPTH = 30;
    private static final int CALM = 9, MOST_STREAM = 18, MOST_HEIGHT = 15, MOST_WIND = 2;

    private static final int RULES = 7;
    private static final int REACHES = 0, BEAT = 1, DRAUGHT = 2, POINT = 3, SHIFT = 4, TURN = 5, DARK = 6;
    private static final int[] RULE_LEAST = {2, 5, 1, 1, 0, 1, 1};
    private static final int[] RULE_MOST = {8, 120, 20, 8, 8, 9, 300};
    private static final int[] RULE_AT_FIRST = {6, 30, 6, 4, 2, 2, 300};

    // What the machine finds in a SHEET.
    private static final int NULL_FAULT = 1, INDEX_FAULT = 2, CAST_FAULT = 3, SIZE_FAULT = 4;

    private static final int MOST_CELLS = 40, SHEETS = 4, IMAGES = 2, MOST_READ = 12;

    private final Reader reader = new Reader();
    private final Voyage voyage = new Voyage();
    private final Voyage[] images = new Voyage[IMAGES];
    private final Sheet[] sheets = new Sheet[SHEETS];
    private final Search search = new Search();
    private final Skipper skipper = new Skipper();
    private final Boat trial = new Boat();
    // A start depends on the river alone, so its arrival is worked out once a text; 0 is not yet.
    private final int[] startArrivals = new int[LAST_MINUTE + 1];
    private River river = new River();
    private int torn;

    public UpRiver() {
        for (int i = 0; i < IMAGES; i++) {
            images[i] = new Voyage();
        }
        for (int k = 0; k < SHEETS; k++) {
            sheets[k] = new Sheet();
        }
    }

    // ---- the text, the river

    public int feed(long v) {
        return reader.tape.append(v) ? reader.tape.length : FULL;
    }

    public int end(int n) {
        int had = reader.tape.length;
        if (n < 0 || n > had) {
            return BAD;
        }
        reader.tape.length = n;
        return had;
    }

    public int text() {
        boolean taken = reader.readText();
        reader.tape.length = 0;
        if (!taken) {
            return -10 - reader.faultPlace;
        }
        river = reader.tradeFor(river);
        beginAnew();
        return reader.lines;
    }

    public int fault() {
        return reader.fault;
    }

    public int rule(int what) {
        if (what >= 0 && what < RULES) {
            return river.rules[what];
        }
        if (what >= 10 && what < 10 + PHASES) {
            return river.streams[what - 10] + CALM;
        }
        if (what >= 30 && what < 30 + PHASES) {
            return river.heights[what - 30];
        }
        return BAD;
    }

    public int reach(int r, int what) {
        if (!river.hasReach(r)) {
            return BAD;
        }
        if (what >= 10 && what < 10 + LANES) {
            return river.depths[r * LANES + what - 10];
        }
        if (what >= 20 && what < 20 + LANES) {
            return asInt(river.eddies[r * LANES + what - 20]);
        }
        switch (what) {
            case 0: return river.lows[r];
            case 1: return river.highs[r];
            case 2: return asInt(river.lees[r]);
            case 3: return river.winds[r];
            case 4: return river.wayOn(r, 0);
            case 5: return river.wayOn(r, 1);
            default: return BAD;
        }
    }

    public int flow(int r, int lane, int t) {
        if (!river.isOpen(r, lane) || !isMinute(t)) {
            return SIGNED_BAD;
        }
        return river.flowAt(r, lane, t);
    }

    public int afloat(int r, int lane, int t, int what) {
        if (!river.hasReach(r) || !isLane(lane) || !isMinute(t) || !isYesOrNo(what)) {
            return BAD;
        }
        boolean wanted = what == 0;
        for (int minute = t; minute <= LAST_MINUTE; minute++) {
            if (river.carries(r, lane, minute) == wanted) {
                return minute;
            }
        }
        return NONE;
    }

    // ---- by hand

    public int sail(int n) {
        Boat boat = voyage.boat;
        if (n < 1 || n > 99) {
            return BAD;
        }
        if (boat.isUp(river)) {
            return STATE;
        }
        if (boat.minute + n > LAST_MINUTE) {
            return FULL;
        }
        int sailed = 0;
        for (int i = 0; i < n && !boat.isUp(river); i++) {
            if (boat.trySail(river)) {
                sailed++;
            } else {
                boat.minute++;
            }
        }
        return sailed;
    }

    public int turn() {
        Boat boat = voyage.boat;
        if (boat.isUp(river)) {
            return STATE;
        }
        if (boat.minute + river.rules[TURN] > LAST_MINUTE) {
            return FULL;
        }
        if (boat.tryTurn(river)) {
            return 1;
        }
        boat.minute++;
        return 0;
    }

    public int anchor(int n) {
        Boat boat = voyage.boat;
        if (n < 1 || n > LAST_MINUTE) {
            return BAD;
        }
        if (boat.minute + n > LAST_MINUTE) {
            return FULL;
        }
        boat.minute += n;
        return boat.minute;
    }

    public int now(int what) {
        Boat boat = voyage.boat;
        switch (what) {
            case 0: return boat.minute;
            case 1: return boat.fine;
            case 2: return boat.lane;
            case 3: return boat.board;
            case 4: return asInt(boat.isUp(river) || boat.isAfloat(river));
            case 5: return asInt(boat.isUp(river));
            case 6: return boat.turns;
            case 7: return boat.sailed;
            default: return BAD;
        }
    }

    public int set(int fine, int lane, int board, int t) {
        if (fine < 0 || fine >= river.top() || !river.isOpen(fine / EIGHTHS, lane)) {
            return BAD;
        }
        if (!isYesOrNo(board) || !isMinute(t)) {
            return BAD;
        }
        Boat boat = voyage.boat;
        boat.lieAt(fine, lane, board, t);
        return asInt(boat.isAfloat(river));
    }

    // ---- the soonest way

    public int soonest() {
        return voyage.boat.isUp(river) ? STATE : arrivalOf(voyage.boat, 0, LANES - 1);
    }

    public int only(int a, int b) {
        if (!isLane(a) || !isLane(b) || a > b) {
            return BAD;
        }
        return voyage.boat.isUp(river) ? STATE : arrivalOf(voyage.boat, a, b);
    }

    public int first() {
        Boat boat = voyage.boat;
        if (boat.isUp(river)) {
            return STATE;
        }
        int due = arrivalOf(boat, 0, LANES - 1);
        if (due == NONE) {
            return NONE;
        }
        trial.take(boat);
        if (trial.trySail(river) && trialArrival() == due) {
            return 0;
        }
        trial.take(boat);
        if (trial.tryTurn(river) && trialArrival() == due) {
            return 1;
        }
        return 2;
    }

    public int from(int t) {
        return isMinute(t) ? startArrival(t) : BAD;
    }

    public int start(int what) {
        if (what < 0 || what > 2) {
            return BAD;
        }
        int latest = NONE, quickest = NONE, fewest = NONE;
        for (int t = 0; t <= LAST_MINUTE; t++) {
            int up = startArrival(t);
            // She may wait at the start, so a later start is never up sooner.
            if (up == NONE || up > river.rules[DARK]) {
                break;
            }
            latest = t;
            if (fewest == NONE || up - t < fewest) {
                quickest = t;
                fewest = up - t;
            }
        }
        return what == 0 ? latest : what == 1 ? quickest : fewest;
    }

    public int days(int n, int k, int what) {
        if (n < 1 || n > 14 || k < 0 || k > 99 || !isYesOrNo(what)) {
            return BAD;
        }
        int good = 0, firstGood = NONE;
        for (int d = 0; d < n; d++) {
            trial.lieAtStart(river, 0);
            search.begin(river, d * k);
            search.add(trial);
            if (search.arrive(river, 0, river.rules[DARK]) != NONE) {
                good++;
                firstGood = firstGood == NONE ? d : firstGood;
            }
        }
        return what == 0 ? good : firstGood;
    }

    // ---- a skipper

    public int skipper(int m, int e, int what) {
        if (!isSkipper(m, e) || what < 0 || what > 2) {
            return BAD;
        }
        if (voyage.boat.isUp(river)) {
            return STATE;
        }
        int up = skipperArrival(m, e);
        return what == 0 ? up : what == 1 ? skipper.boat.turns : skipper.boat.sailed;
    }

    public int best(int e, int what) {
        if (!isYesOrNo(e) || !isYesOrNo(what)) {
            return BAD;
        }
        if (voyage.boat.isUp(river)) {
            return STATE;
        }
        int bestMargin = NONE, bestUp = NONE;
        for (int m = 0; m <= MOST_MARGIN; m++) {
            int up = skipperArrival(m, e);
            if (up != NONE && (bestUp == NONE || up < bestUp)) {
                bestMargin = m;
                bestUp = up;
            }
        }
        return what == 0 ? bestMargin : bestUp;
    }

    public int loses(int m, int e) {
        if (!isSkipper(m, e)) {
            return BAD;
        }
        if (voyage.boat.isUp(river)) {
            return STATE;
        }
        int up = skipperArrival(m, e);
        return up == NONE ? NONE : up - arrivalOf(voyage.boat, 0, LANES - 1);
    }

    // ---- a narrow place, a lead

    public int narrow(int f) {
        if (f < -9 || f > 9) {
            return BAD;
        }
        for (int width = 2; width <= LANES; width++) {
            int gain = (width - 1) * (river.rules[POINT] + f) + river.rules[TURN] * f;
            if (gain > 0) {
                return width;
            }
        }
        return NONE;
    }

    public int lead(int r, int a, int b, int c, int what) {
        if (r < 0 || r > MOST_DEPTH || !areChances(a, b, c) || !isYesOrNo(what)) {
            return BAD;
        }
        int part = shallowChances(r, a, b, c), whole = a + b + c;
        int shared = commonDivisor(part, whole);
        if (shared < 1) {
            return BAD;
        }
        return what == 0 ? part / shared : whole / shared;
    }

    public int near(int a, int b, int c, int x, int y) {
        if (!areChances(a, b, c) || x < 0 || x > 99 || y < 1 || y > 99) {
            return BAD;
        }
        int least = NONE;
        for (int r = MOST_DEPTH; r >= 0; r--) {
            if (shallowChances(r, a, b, c) * y > x * (a + b + c)) {
                break;
            }
            least = r;
        }
        return least;
    }

    // ---- a log, a wind that swings, a barge

    public int logged(int r, int t) {
        return voyage.log.add(r, t, river.rules[REACHES]);
    }

    public int lost(int what) {
        if (!isYesOrNo(what)) {
            return SIGNED_BAD;
        }
        int most = SIGNED_NONE, where = SIGNED_NONE;
        for (int i = 0; i + 1 < voyage.log.size; i++) {
            int soonest = stretchArrival(i);
            if (soonest == NONE) {
                continue;
            }
            int late = voyage.log.minutes[i + 1] - soonest;
            if (where == SIGNED_NONE || late > most) {
                most = late;
                where = i;
            }
        }
        return what == 0 ? most : where;
    }

    public int swing(int v) {
        return voyage.swings.add(v);
    }

    public int judged(int n) {
        return n < 1 || n > Swings.MOST_AHEAD ? BAD : voyage.swings.rightBy(n);
    }

    public int judge(int what) {
        if (what < 0 || what > 2) {
            return BAD;
        }
        int bestAhead = NONE, bestRight = NONE, bestAll = NONE;
        for (int n = 1; n <= Swings.MOST_AHEAD && n < voyage.swings.size; n++) {
            int right = voyage.swings.rightBy(n), all = voyage.swings.size - n;
            if (bestAhead == NONE || right * bestAll > bestRight * all) {
                bestAhead = n;
                bestRight = right;
                bestAll = all;
            }
        }
        return what == 0 ? bestAhead : what == 1 ? bestRight : bestAll;
    }

    public int barge(int lane, int at, int m, int e, int what) {
        if (!isLane(lane) || !isMinute(at) || !isSkipper(m, e) || !isYesOrNo(what)) {
            return BAD;
        }
        if (voyage.boat.isUp(river)) {
            return STATE;
        }
        skipper.begin(voyage.boat, m, e);
        for (int i = 0; i <= LAST_MINUTE && !skipper.boat.isUp(river); i++) {
            int reachHere = skipper.boat.fine / EIGHTHS, laneHere = skipper.boat.lane;
            int begun = skipper.boat.minute;
            int met = at + river.rules[REACHES] - 1 - reachHere;
            boolean over = !skipper.act(river);
            int till = over ? begun : skipper.boat.minute - 1;
            if (laneHere == lane && met >= begun && met <= till) {
                return what == 0 ? met : reachHere;
            }
            if (over) {
                break;
            }
        }
        return NONE;
    }

    // ---- images, sheets

    public int keep(int i) {
        if (i < 0 || i >= IMAGES) {
            return BAD;
        }
        int was = asInt(images[i].kept);
        images[i].take(voyage);
        images[i].kept = true;
        return was;
    }

    public int back(int i) {
        if (i < 0 || i >= IMAGES) {
            return BAD;
        }
        if (!images[i].kept) {
            return STATE;
        }
        voyage.take(images[i]);
        return voyage.boat.minute;
    }

    public int sheet(int k, int lane, int n) {
        if (!isSheet(k) || !Sheet.isKind(lane) || n > MOST_CELLS) {
            return BAD;
        }
        if (n < 0) {
            return -10 - SIZE_FAULT;
        }
        sheets[k].renew(lane, n);
        return 1;
    }

    public int lay(int k, int i, int v) {
        if (!isSheet(k)) {
            return BAD;
        }
        if (sheets[k].size == NONE) {
            return -10 - NULL_FAULT;
        }
        return sheets[k].put(i, v) ? 1 : -10 - INDEX_FAULT;
    }

    public int read(int k, int lane, int f, int n) {
        if (!isSheet(k) || !Sheet.isKind(lane) || n < 0 || n > MOST_READ) {
            return BAD;
        }
        int found = n == 0 ? 0 : sheets[k].faultAs(lane);
        int had = voyage.log.size, came = 0;
        for (int i = 0; i < n && found == 0; i++) {
            // A long, since f may be as great as an int can be.
            long cell = (long) f + 2L * i;
            if (!sheets[k].hasCell(cell) || !sheets[k].hasCell(cell + 1)) {
                found = INDEX_FAULT;
            } else if (logged(sheets[k].cellAt(cell), sheets[k].cellAt(cell + 1)) < 0) {
                voyage.log.size = had;
                return -20 - i;
            } else {
                came++;
            }
        }
        torn = found;
        return came;
    }

    public int torn() {
        return torn;
    }

    public int count(int what) {
        switch (what) {
            case 0: return voyage.log.size;
            case 1: return voyage.swings.size;
            case 2: return howMany(river.eddies);
            case 3: return howMany(river.lees);
            case 4: return asInt(images[0].kept) + asInt(images[1].kept);
            case 5: return reader.tape.length;
            case 6: return sheets[0].size;
            default: return BAD;
        }
    }

    // ---- what the calls share

    private static int asInt(boolean yes) {
        return yes ? 1 : 0;
    }

    private static int howMany(boolean[] marks) {
        int n = 0;
        for (boolean mark : marks) {
            n += asInt(mark);
        }
        return n;
    }

    private static boolean isYesOrNo(int v) {
        return v == 0 || v == 1;
    }

    private static boolean isMinute(int t) {
        return t >= 0 && t <= LAST_MINUTE;
    }

    private static boolean isLane(int lane) {
        return lane >= 0 && lane < LANES;
    }

    private static boolean isSkipper(int m, int e) {
        return m >= 0 && m <= MOST_MARGIN && isYesOrNo(e);
    }

    private static boolean isSheet(int k) {
        return k >= 0 && k < SHEETS;
    }

    private static boolean areChances(int a, int b, int c) {
        return a >= 0 && a <= 9 && b >= 0 && b <= 9 && c >= 0 && c <= 9 && a + b + c > 0;
    }

    private static int commonDivisor(int part, int whole) {
        for (int d = whole; d > 1; d--) {
            if (part % d == 0 && whole % d == 0) {
                return d;
            }
        }
        return 1;
    }

    private int shallowChances(int r, int a, int b, int c) {
        int draught = river.rules[DRAUGHT];
        return (r + 1 < draught ? a : 0) + (r < draught ? b : 0) + (r - 1 < draught ? c : 0);
    }

    private void beginAnew() {
        for (int t = 0; t <= LAST_MINUTE; t++) {
            startArrivals[t] = 0;
        }
        voyage.boat.lieAtStart(river, 0);
        voyage.log.size = 0;
        voyage.swings.size = 0;
        for (int i = 0; i < IMAGES; i++) {
            images[i].kept = false;
        }
    }

    private int arrivalOf(Boat boat, int lowLane, int highLane) {
        search.begin(river, 0);
        search.keepTo(lowLane, highLane);
        search.add(boat);
        return search.arrive(river, boat.minute, LAST_MINUTE);
    }

    private int trialArrival() {
        return trial.isUp(river) ? trial.minute : arrivalOf(trial, 0, LANES - 1);
    }

    private int startArrival(int t) {
        if (startArrivals[t] == 0) {
            trial.lieAtStart(river, t);
            startArrivals[t] = arrivalOf(trial, 0, LANES - 1);
        }
        return startArrivals[t];
    }

    private int skipperArrival(int m, int e) {
        skipper.begin(voyage.boat, m, e);
        for (int i = 0; i <= LAST_MINUTE && !skipper.boat.isUp(river); i++) {
            if (!skipper.act(river)) {
                return NONE;
            }
        }
        return skipper.boat.isUp(river) ? skipper.boat.minute : NONE;
    }

    private int stretchArrival(int i) {
        Log log = voyage.log;
        int r = log.reaches[i], t = log.minutes[i];
        search.begin(river, 0);
        search.goal = log.reaches[i + 1] * EIGHTHS;
        for (int lane = 0; lane < LANES; lane++) {
            if (river.carries(r, lane, t)) {
                trial.lieAt(r * EIGHTHS, lane, 0, t);
                search.add(trial);
                trial.board = 1;
                search.add(trial);
            }
        }
        return search.arrive(river, t, LAST_MINUTE);
    }

    /** What a text tells: rules, phases, places. */
    private static final class River {
        private static final int HEIGHTS = 16;
        // Less than any draught: where the river is not open.
        private static final int DRY = -1;

        final int[] rules = new int[RULES];
        final int[] streams = new int[PHASES];
        final int[] heights = new int[PHASES];
        final int[] lows = new int[MOST_REACHES];
        final int[] highs = new int[MOST_REACHES];
        final int[] winds = new int[MOST_REACHES];
        final boolean[] lees = new boolean[MOST_REACHES];
        final int[] depths = new int[PLACES];
        final boolean[] eddies = new boolean[PLACES];
        // By HEIGHT and LANE, a bit for each FINE at which she is AFLOAT.
        final long[] floatBits = new long[HEIGHTS * LANES];

        River() {
            forget();
            settle();
        }

        void forget() {
            for (int i = 0; i < RULES; i++) {
                rules[i] = RULE_AT_FIRST[i];
            }
            for (int p = 0; p < PHASES; p++) {
                streams[p] = 0;
                heights[p] = 0;
            }
            for (int r = 0; r < MOST_REACHES; r++) {
                lows[r] = 0;
                highs[r] = LANES - 1;
                winds[r] = 1;
                lees[r] = false;
            }
            for (int i = 0; i < PLACES; i++) {
                depths[i] = 20;
                eddies[i] = false;
            }
        }

        /** To be called when all is told: the bits follow from the rest. */
        void settle() {
            for (int height = 0; height < HEIGHTS; height++) {
                for (int lane = 0; lane < LANES; lane++) {
                    floatBits[height * LANES + lane] = bitsAfloat(height, lane);
                }
            }
        }

        long bitsAfloat(int height, int lane) {
            long bits = 0;
            for (int r = 0; r < MOST_REACHES; r++) {
                if (isOpen(r, lane) && depths[r * LANES + lane] + height >= rules[DRAUGHT]) {
                    bits |= 0xFFL << (r * EIGHTHS);
                }
            }
            return bits;
        }

        int top() {
            return rules[REACHES] * EIGHTHS;
        }

        boolean hasReach(int r) {
            return r >= 0 && r < MOST_REACHES && r < rules[REACHES];
        }

        boolean isOpen(int r, int lane) {
            if (r < 0 || r >= MOST_REACHES || r >= rules[REACHES]) {
                return false;
            }
            return lane >= lows[r] && lane <= highs[r] && lane >= 0 && lane < LANES;
        }

        /** Minutes below 0 are asked on days whose phases begin later. */
        int phaseIn(int minute) {
            int beat = rules[BEAT];
            return beat < 1 ? 0 : Math.floorMod(Math.floorDiv(minute, beat), PHASES);
        }

        long bitsAfloatIn(int lane, int minute) {
            int height = heights[phaseIn(minute)];
            if (height < 0 || height >= HEIGHTS || !isLane(lane)) {
                return 0;
            }
            return floatBits[height * LANES + lane];
        }

        int waterAt(int r, int lane, int minute) {
            return isOpen(r, lane) ? depths[r * LANES + lane] + heights[phaseIn(minute)] : DRY;
        }

        boolean carries(int r, int lane, int minute) {
            return waterAt(r, lane, minute) >= rules[DRAUGHT];
        }

        int flowAt(int r, int lane, int minute) {
            if (!isOpen(r, lane)) {
                return 0;
            }
            int stream = streams[phaseIn(minute)];
            if (lane - lows[r] <= 1 || highs[r] - lane <= 1) {
                stream /= 2;
            }
            return eddies[r * LANES + lane] ? -stream : stream;
        }

        int wayOn(int r, int board) {
            if (!hasReach(r)) {
                return 0;
            }
            if (lees[r]) {
                return 1;
            }
            int lift = (winds[r] - 1) * rules[SHIFT];
            return rules[POINT] + (board == 0 ? lift : -lift);
        }
    }

    /** The bytes that are told, till a text takes them. */
    private static final class Tape {
        private static final int MOST_BYTES = 400;

        final byte[] bytes = new byte[MOST_BYTES];
        int length;

        boolean append(long v) {
            if (length + 8 > MOST_BYTES) {
                return false;
            }
            for (int i = 0; i < 8; i++) {
                bytes[length + i] = (byte) (v >>> (56 - 8 * i));
            }
            length += 8;
            return true;
        }

        /** A byte without its sign; 0, which is no token, where there is none. */
        int at(int place) {
            return place >= 0 && place < length ? bytes[place] & 0xFF : 0;
        }
    }

    /** Reads a tape, token by token, into a river; stops at the first fault. */
    private static final class Reader {
        private static final int NAME = 1, NUMBER = 2, STOP = 3, END = 4;
        private static final int NO_TOKEN = 1, MISPLACED = 2, OUT_OF_BOUNDS = 3, TWICE = 4, NO_REACH = 5;
        // The lines that are no RULES, numbered behind them.
        private static final int BANK = 7, DEEP = 8, EDDY = 9, LEE = 10, WIND = 11, TIDE = 12, HIGH = 13;
        private static final int KINDS = 14;
        // Where the marks of what was told begin: of lines by their kind, of reaches, of places.
        private static final int BANK_MARKS = 14, LEE_MARKS = 22, WIND_MARKS = 30, DEEP_MARKS = 38, EDDY_MARKS = 110;
        private static final int ALL_MARKS = 182;

        final Tape tape = new Tape();
        final boolean[] marks = new boolean[ALL_MARKS];
        final int[] numbers = new int[PHASES];
        // A river of its own, so that a fault leaves the one that is in use as it was.
        River draft = new River();
        int place;
        int token;
        int begin;
        int value;
        int lines;
        int highestTold;
        int fault;
        int faultPlace;

        /** Hands out the river that was read; the old one serves for the next text. */
        River tradeFor(River old) {
            River told = draft;
            draft = old;
            return told;
        }

        boolean readText() {
            draft.forget();
            forget();
            // A line has two bytes at least, so the tape's length is bound enough.
            for (int i = 0; i <= tape.length; i++) {
                if (!nextToken()) {
                    return false;
                }
                if (token == END) {
                    break;
                }
                if (!readLine()) {
                    return false;
                }
                lines++;
            }
            if (highestTold >= draft.rules[REACHES]) {
                return fail(NO_REACH, tape.length);
            }
            draft.settle();
            return true;
        }

        void forget() {
            place = 0;
            lines = 0;
            highestTold = -1;
            fault = 0;
            faultPlace = 0;
            for (int i = 0; i < ALL_MARKS; i++) {
                marks[i] = false;
            }
        }

        boolean fail(int which, int where) {
            fault = which;
            faultPlace = where;
            return false;
        }

        boolean nextToken() {
            while (place < tape.length && tape.at(place) == ' ') {
                place++;
            }
            begin = place;
            if (place >= tape.length) {
                token = END;
                return true;
            }
            int sign = tape.at(place);
            if (isLetter(sign)) {
                token = NAME;
                skipName();
                return true;
            }
            if (isFigure(sign)) {
                token = NUMBER;
                return takeNumber();
            }
            token = STOP;
            place++;
            return sign == ';' || fail(NO_TOKEN, begin);
        }

        static boolean isLetter(int sign) {
            return sign >= 'a' && sign <= 'z';
        }

        static boolean isFigure(int sign) {
            return sign >= '0' && sign <= '9';
        }

        void skipName() {
            while (place < tape.length && isLetter(tape.at(place))) {
                place++;
            }
        }

        boolean takeNumber() {
            value = 0;
            while (place < tape.length && isFigure(tape.at(place))) {
                if (place - begin >= 3) {
                    return fail(NO_TOKEN, begin);
                }
                value = value * 10 + tape.at(place) - '0';
                place++;
            }
            return true;
        }

        boolean readLine() {
            int kind = token == NAME ? kindOfName() : KINDS;
            if (kind >= KINDS) {
                return fail(MISPLACED, begin);
            }
            boolean onceOnly = kind < RULES || kind == TIDE || kind == HIGH;
            if (onceOnly && !mark(kind)) {
                return false;
            }
            for (int i = 0; i < numbersOf(kind); i++) {
                if (!readNumber(leastOf(kind, i), mostOf(kind, i))) {
                    return false;
                }
                numbers[i] = value;
                if (!mark(markOf(kind, i))) {
                    return false;
                }
            }
            if (!nextToken()) {
                return false;
            }
            if (token != STOP) {
                return fail(MISPLACED, begin);
            }
            tell(kind);
            return true;
        }

        int kindOfName() {
            for (int kind = 0; kind < KINDS; kind++) {
                if (isWord(wordOf(kind))) {
                    return kind;
                }
            }
            return KINDS;
        }

        boolean isWord(String word) {
            if (word.length() != place - begin) {
                return false;
            }
            for (int i = 0; i < word.length(); i++) {
                if (word.charAt(i) != tape.at(begin + i)) {
                    return false;
                }
            }
            return true;
        }

        static String wordOf(int kind) {
            switch (kind) {
                case REACHES: return "reaches";
                case BEAT: return "beat";
                case DRAUGHT: return "draught";
                case POINT: return "point";
                case SHIFT: return "shift";
                case TURN: return "turn";
                case DARK: return "dark";
                case BANK: return "bank";
                case DEEP: return "deep";
                case EDDY: return "eddy";
                case LEE: return "lee";
                case WIND: return "wind";
                case TIDE: return "tide";
                default: return "high";
            }
        }

        static int numbersOf(int kind) {
            switch (kind) {
                case BANK: case DEEP: return 3;
                case EDDY: case WIND: return 2;
                case TIDE: case HIGH: return PHASES;
                default: return 1;
            }
        }

        int leastOf(int kind, int i) {
            if (kind < RULES) {
                return RULE_LEAST[kind];
            }
            return kind == BANK && i == 2 ? numbers[1] : 0;
        }

        int mostOf(int kind, int i) {
            if (kind < RULES) {
                return RULE_MOST[kind];
            }
            if (kind == TIDE) {
                return MOST_STREAM;
            }
            if (kind == HIGH) {
                return MOST_HEIGHT;
            }
            if (i == 0) {
                // Whether there is such a reach is known only behind all.
                return MOST_REACHES - 1;
            }
            if (kind == WIND) {
                return MOST_WIND;
            }
            return kind == DEEP && i == 2 ? MOST_DEPTH : LANES - 1;
        }

        boolean readNumber(int least, int most) {
            if (!nextToken()) {
                return false;
            }
            if (token != NUMBER) {
                return fail(MISPLACED, begin);
            }
            return (value >= least && value <= most) || fail(OUT_OF_BOUNDS, begin);
        }

        /** The mark that the i-th number of a line completes, or none. */
        int markOf(int kind, int i) {
            if (i == 0) {
                switch (kind) {
                    case BANK: return BANK_MARKS + numbers[0];
                    case LEE: return LEE_MARKS + numbers[0];
                    case WIND: return WIND_MARKS + numbers[0];
                    default: return NONE;
                }
            }
            if (i == 1 && (kind == DEEP || kind == EDDY)) {
                return (kind == DEEP ? DEEP_MARKS : EDDY_MARKS) + numbers[0] * LANES + numbers[1];
            }
            return NONE;
        }

        boolean mark(int which) {
            if (which < 0 || which >= ALL_MARKS) {
                return true;
            }
            if (marks[which]) {
                return fail(TWICE, begin);
            }
            marks[which] = true;
            return true;
        }

        void tell(int kind) {
            if (kind < RULES) {
                draft.rules[kind] = numbers[0];
            } else if (kind == TIDE || kind == HIGH) {
                tellPhases(kind);
            } else {
                tellReach(kind, numbers[0]);
                highestTold = Math.max(highestTold, numbers[0]);
            }
        }

        void tellPhases(int kind) {
            for (int p = 0; p < PHASES; p++) {
                if (kind == TIDE) {
                    draft.streams[p] = numbers[p] - CALM;
                } else {
                    draft.heights[p] = numbers[p];
                }
            }
        }

        void tellReach(int kind, int r) {
            switch (kind) {
                case BANK:
                    draft.lows[r] = numbers[1];
                    draft.highs[r] = numbers[2];
                    break;
                case DEEP:
                    draft.depths[r * LANES + numbers[1]] = numbers[2];
                    break;
                case EDDY:
                    draft.eddies[r * LANES + numbers[1]] = true;
                    break;
                case LEE:
                    draft.lees[r] = true;
                    break;
                default:
                    draft.winds[r] = numbers[1];
                    break;
            }
        }
    }

    /** A boat in a minute; a new one lies at the start of the river as it is at first, where all is 0. */
    private static final class Boat {
        int fine;
        int lane;
        int board;
        int minute;
        int turns;
        int sailed;

        void take(Boat other) {
            lieAt(other.fine, other.lane, other.board, other.minute);
            turns = other.turns;
            sailed = other.sailed;
        }

        void lieAt(int newFine, int newLane, int newBoard, int newMinute) {
            fine = newFine;
            lane = newLane;
            board = newBoard;
            minute = newMinute;
            turns = 0;
            sailed = 0;
        }

        void lieAtStart(River river, int newMinute) {
            lieAt(0, river.lows[0], 0, newMinute);
        }

        boolean isUp(River river) {
            return fine >= river.top();
        }

        boolean isAfloat(River river) {
            return river.carries(fine / EIGHTHS, lane, minute);
        }

        int laneAhead() {
            return board == 0 ? lane + 1 : lane - 1;
        }

        boolean trySail(River river) {
            if (minute >= LAST_MINUTE || !isAfloat(river)) {
                return false;
            }
            int r = fine / EIGHTHS;
            int newFine = Math.max(0, fine + river.wayOn(r, board) + river.flowAt(r, lane, minute));
            int newLane = newFine >= river.top() ? lane : laneAhead();
            if (newFine < river.top() && !river.carries(newFine / EIGHTHS, newLane, minute + 1)) {
                return false;
            }
            fine = newFine;
            lane = newLane;
            minute++;
            sailed++;
            return true;
        }

        boolean tryTurn(River river) {
            int takes = river.rules[TURN];
            if (minute + takes > LAST_MINUTE || !isAfloat(river)) {
                return false;
            }
            int newFine = Math.max(0, fine + takes * river.flowAt(fine / EIGHTHS, lane, minute));
            if (newFine < river.top() && !river.carries(newFine / EIGHTHS, lane, minute + takes)) {
                return false;
            }
            fine = newFine;
            board = 1 - board;
            minute += takes;
            turns++;
            return true;
        }
    }

    /** A boat by a skipper's rule, from where another boat is. */
    private static final class Skipper {
        final Boat boat = new Boat();
        int margin;
        int eyes;
        // A turn for the better wind needs a minute sailed first, else she would turn for ever.
        boolean mayTurnForWind;

        void begin(Boat from, int m, int e) {
            boat.lieAt(from.fine, from.lane, from.board, from.minute);
            margin = m;
            eyes = e;
            mayTurnForWind = true;
        }

        /** Does what the rule says in this minute; false when there is no minute more. */
        boolean act(River river) {
            if (boat.minute >= LAST_MINUTE) {
                return false;
            }
            boolean turns = isShoalAhead(river) || isOtherBoardBetter(river);
            boolean did = turns ? boat.tryTurn(river) : boat.trySail(river);
            if (did) {
                mayTurnForWind = !turns;
            } else {
                boat.minute++;
            }
            return true;
        }

        boolean isShoalAhead(River river) {
            int wanted = river.rules[DRAUGHT] + margin;
            return river.waterAt(boat.fine / EIGHTHS, boat.laneAhead(), boat.minute) < wanted;
        }

        boolean isOtherBoardBetter(River river) {
            int r = boat.fine / EIGHTHS;
            boolean better = river.wayOn(r, 1 - boat.board) > river.wayOn(r, boat.board);
            return eyes == 1 && mayTurnForWind && better;
        }
    }

    /** All ways at once: in each minute every FINE where she can be is a bit of a long, one long for a LANE and BOARD. */
    private static final class Search {
        // A turn of nine minutes lands nine minutes ahead of the one that is looked at.
        private static final int MINUTES_HELD = 10;
        private static final int LONGS_A_MINUTE = 18;
        private static final int BITS = 64;

        final long[] held = new long[MINUTES_HELD * LONGS_A_MINUTE];
        int later;
        int lowLane;
        int highLane;
        int top;
        int goal;
        int found;

        /** Phases begin some minutes later; till told otherwise all lanes serve, and the goal is to be up. */
        void begin(River river, int newLater) {
            later = newLater;
            lowLane = 0;
            highLane = LANES - 1;
            top = river.top();
            goal = top;
            for (int i = 0; i < held.length; i++) {
                held[i] = 0;
            }
        }

        void keepTo(int newLow, int newHigh) {
            lowLane = Math.max(0, newLow);
            highLane = Math.min(LANES - 1, newHigh);
        }

        boolean serves(int lane) {
            return lane >= lowLane && lane <= highLane;
        }

        static int indexOf(int lane, int board, int minute) {
            return minute % MINUTES_HELD * LONGS_A_MINUTE + lane * 2 + board;
        }

        void add(Boat boat) {
            if (serves(boat.lane) && boat.fine < top) {
                held[indexOf(boat.lane, boat.board, boat.minute)] |= 1L << boat.fine;
            }
        }

        /** The first minute in which one of those that were added, all in this minute, is at the goal. */
        int arrive(River river, int minute, int last) {
            found = last + 1;
            for (int t = minute; t < last && t + 1 < found; t++) {
                for (int lane = lowLane; lane <= highLane; lane++) {
                    leave(river, lane, 0, t);
                    leave(river, lane, 1, t);
                }
            }
            return found <= last ? found : NONE;
        }

        void leave(River river, int lane, int board, int t) {
            int index = indexOf(lane, board, t);
            long here = held[index];
            held[index] = 0;
            if (here == 0) {
                return;
            }
            held[indexOf(lane, board, t + 1)] |= here;
            int laneAhead = board == 0 ? lane + 1 : lane - 1;
            int turned = t + river.rules[TURN];
            long free = here & river.bitsAfloatIn(lane, t - later);
            long freeAhead = serves(laneAhead) ? river.bitsAfloatIn(laneAhead, t + 1 - later) : 0;
            long freeTurned = river.bitsAfloatIn(lane, turned - later);
            for (int r = 0; r < river.rules[REACHES]; r++) {
                long some = free & (0xFFL << (r * EIGHTHS));
                if (some != 0) {
                    int flow = river.flowAt(r, lane, t - later);
                    int gain = river.wayOn(r, board) + flow;
                    noteUp(some, gain, t + 1);
                    land(moved(some, gain) & freeAhead, laneAhead, board, t + 1);
                    noteUp(some, (turned - t) * flow, turned);
                    land(moved(some, (turned - t) * flow) & freeTurned, lane, 1 - board, turned);
                }
            }
        }

        void noteUp(long some, int drift, int t) {
            if (drift > 0 && bitsFrom(some, top - drift) != 0) {
                found = Math.min(found, t);
            }
        }

        void land(long there, int lane, int board, int t) {
            if (there == 0) {
                return;
            }
            if (bitsFrom(there, goal) != 0) {
                found = Math.min(found, t);
            }
            held[indexOf(lane, board, t)] |= there;
        }

        /** A shift of Java's takes its distance modulo 64, so distances beyond are told apart here. */
        static long bitsFrom(long bits, int lowest) {
            return lowest >= BITS ? 0 : bits >>> Math.max(0, lowest);
        }

        /** What drifts below 0 stays at 0. What drifts beyond the top has no water there, so it may be left or lost. */
        static long moved(long some, int drift) {
            if (drift >= 0) {
                return drift >= BITS ? 0 : some << drift;
            }
            long above = bitsFrom(some, -drift);
            boolean anyBelow = -drift >= BITS || (some & ((1L << -drift) - 1)) != 0;
            return anyBelow ? above | 1L : above;
        }
    }

    /** Where she was, when. */
    private static final class Log {
        private static final int MOST_LOGGED = 12;

        final int[] reaches = new int[MOST_LOGGED];
        final int[] minutes = new int[MOST_LOGGED];
        int size;

        int add(int r, int t, int highest) {
            if (r < 0 || r > highest || !isMinute(t)) {
                return BAD;
            }
            if (size > 0 && (r <= reaches[size - 1] || t <= minutes[size - 1])) {
                return BAD;
            }
            if (size >= MOST_LOGGED) {
                return FULL;
            }
            reaches[size] = r;
            minutes[size] = t;
            size++;
            return size;
        }

        void take(Log other) {
            size = other.size;
            for (int i = 0; i < size; i++) {
                reaches[i] = other.reaches[i];
                minutes[i] = other.minutes[i];
            }
        }
    }

    /** Winds, one behind another. */
    private static final class Swings {
        private static final int MOST_SWINGS = 40, MOST_AHEAD = 20;

        final int[] winds = new int[MOST_SWINGS];
        int size;

        int add(int v) {
            if (v < 0 || v > 2) {
                return BAD;
            }
            if (size >= MOST_SWINGS) {
                return FULL;
            }
            winds[size] = v;
            size++;
            return size;
        }

        int rightBy(int n) {
            int right = 0;
            for (int i = Math.max(1, n); i < size; i++) {
                right += asInt(meanAhead(i, n) == winds[i]);
            }
            return right;
        }

        int meanAhead(int i, int n) {
            int sum = 0;
            for (int j = Math.max(0, i - n); j < i && j < size; j++) {
                sum += winds[j];
            }
            return n < 1 ? NONE : (2 * sum + n) / (2 * n);
        }

        void take(Swings other) {
            size = other.size;
            for (int i = 0; i < size; i++) {
                winds[i] = other.winds[i];
            }
        }
    }

    /** What an image keeps. */
    private static final class Voyage {
        final Boat boat = new Boat();
        final Log log = new Log();
        final Swings swings = new Swings();
        boolean kept;

        void take(Voyage other) {
            boat.take(other.boat);
            log.take(other.log);
            swings.take(other.swings);
        }
    }

    /** A row of cells of one width, or nothing. */
    private static final class Sheet {
        private static final int BYTES = 0, SHORTS = 1, INTS = 2;

        final int[] cells = new int[MOST_CELLS];
        int kind;
        int size = NONE;

        static boolean isKind(int lane) {
            return lane >= BYTES && lane <= INTS;
        }

        void renew(int newKind, int newSize) {
            kind = newKind;
            size = newSize;
            for (int i = 0; i < MOST_CELLS; i++) {
                cells[i] = 0;
            }
        }

        boolean hasCell(long i) {
            return i >= 0 && i < size && i < MOST_CELLS;
        }

        int cellAt(long i) {
            return hasCell(i) ? cells[(int) i] : 0;
        }

        boolean put(int i, int v) {
            if (!hasCell(i)) {
                return false;
            }
            cells[i] = kind == BYTES ? (byte) v : kind == SHORTS ? (short) v : v;
            return true;
        }

        int faultAs(int lane) {
            return size == NONE ? NULL_FAULT : lane != kind ? CAST_FAULT : 0;
        }
    }
}
