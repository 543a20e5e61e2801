import java.util.ArrayList;
import java.util.HashMap;
import java.util.HashSet;
import java.util.List;
import java.util.Map;
import java.util.Set;
import java.util.regex.Matcher;
import java.util.regex.Pattern;

/** The document once more, slowly and by other ways, so that two readings of it can be held against each other. */
final class Model {
    static final int BAD = -1, STATE = -2, FULL = -3, NONE = -4, NEVER = 1_000_000;

    /** What a text tells. */
    static final class Told {
        final Map<String, Integer> rules = new HashMap<>(Map.of(
                "reaches", 6, "beat", 30, "draught", 6, "point", 4, "shift", 2, "turn", 2, "dark", 300));
        int[] tide = new int[12];
        int[] high = new int[12];
        final int[][] banks = new int[8][];
        final Map<Integer, Integer> winds = new HashMap<>();
        /** A depth less 20, so that what is not told is 0. */
        final int[][] depths = new int[8][9];
        final boolean[][] eddies = new boolean[8][9];
        int eddiesTold;
        final Set<Integer> lees = new HashSet<>();

        int rule(String name) {
            return rules.get(name);
        }

        int low(int r) {
            return banks[r] != null ? banks[r][0] : 0;
        }

        int high(int r) {
            return banks[r] != null ? banks[r][1] : 8;
        }

        int depth(int r, int lane) {
            return 20 + depths[r][lane];
        }
    }

    record Fault(int number, int place) { }

    record Boat(int fine, int lane, int board, int minute, int turns, int sailed) {
        Boat waits(int n) {
            return new Boat(fine, lane, board, minute + n, turns, sailed);
        }
    }

    record Image(Boat boat, List<int[]> log, List<Integer> swings) { }

    static final String[] RULE_NAMES = {"reaches", "beat", "draught", "point", "shift", "turn", "dark"};
    static final Map<String, int[]> RULE_BOUNDS = Map.of("reaches", new int[] {2, 8}, "beat", new int[] {5, 120},
            "draught", new int[] {1, 20}, "point", new int[] {1, 8}, "shift", new int[] {0, 8},
            "turn", new int[] {1, 9}, "dark", new int[] {1, 300});
    static final Map<String, Integer> OTHERS = Map.of("bank", 3, "deep", 3, "eddy", 2, "lee", 1, "wind", 2, "tide", 12, "high", 12);
    static final Pattern TOKEN = Pattern.compile(" *([a-z]+|[0-9]+|;|$)");

    Told told = new Told();
    String tape = "";
    int fault;
    int torn;
    Boat boat = new Boat(0, 0, 0, 0, 0, 0);
    List<int[]> log = new ArrayList<>();
    List<Integer> swings = new ArrayList<>();
    final Image[] images = new Image[2];
    /** byte[], short[], int[] or null, so that the machine itself can find the faults. */
    final Object[] sheets = new Object[4];
    final Map<List<Integer>, int[][][][]> tables = new HashMap<>();

    // ---- the text

    int feed(long v) {
        if (tape.length() + 8 > 400) {
            return FULL;
        }
        StringBuilder b = new StringBuilder(tape);
        for (int i = 7; i >= 0; i--) {
            b.append((char) (v >> 8 * i & 255));
        }
        tape = b.toString();
        return tape.length();
    }

    int end(int n) {
        if (n < 0 || n > tape.length()) {
            return BAD;
        }
        int had = tape.length();
        tape = tape.substring(0, n);
        return had;
    }

    /** A reader by a regular expression that stops by an exception. */
    static final class Stop extends RuntimeException {
        private static final long serialVersionUID = 1L;
        final transient Fault fault;

        Stop(int number, int place) {
            fault = new Fault(number, place);
        }
    }

    private String source;
    private int at;
    private int begun;

    private String token() {
        Matcher m = TOKEN.matcher(source).region(at, source.length());
        if (!m.lookingAt()) {
            int place = at;
            while (source.charAt(place) == ' ') {
                place++;
            }
            throw new Stop(1, place);
        }
        begun = m.start(1);
        at = m.end();
        String t = m.group(1);
        if (t.length() > 3 && Character.isDigit(t.charAt(0))) {
            throw new Stop(1, begun);
        }
        return t;
    }

    private int number(int least, int most) {
        String t = token();
        if (t.isEmpty() || !Character.isDigit(t.charAt(0))) {
            throw new Stop(2, begun);
        }
        int v = Integer.parseInt(t);
        if (v < least || v > most) {
            throw new Stop(3, begun);
        }
        return v;
    }

    private void once(Set<String> seen, String what) {
        if (!seen.add(what)) {
            throw new Stop(4, begun);
        }
    }

    private void line(String name, Told t, Set<String> seen, List<Integer> reaches) {
        if (RULE_BOUNDS.containsKey(name)) {
            once(seen, name);
            t.rules.put(name, number(RULE_BOUNDS.get(name)[0], RULE_BOUNDS.get(name)[1]));
        } else if (name.equals("tide") || name.equals("high")) {
            once(seen, name);
            int[] row = new int[12];
            for (int p = 0; p < 12; p++) {
                row[p] = name.equals("tide") ? number(0, 18) - 9 : number(0, 15);
            }
            if (name.equals("tide")) {
                t.tide = row;
            } else {
                t.high = row;
            }
        } else if (OTHERS.containsKey(name)) {
            int r = number(0, 7);
            reaches.add(r);
            if (name.equals("deep") || name.equals("eddy")) {
                int lane = number(0, 8);
                once(seen, name + r + "," + lane);
                if (name.equals("eddy")) {
                    t.eddies[r][lane] = true;
                    t.eddiesTold++;
                } else {
                    t.depths[r][lane] = number(0, 30) - 20;
                }
            } else {
                once(seen, name + r);
                if (name.equals("bank")) {
                    int low = number(0, 8);
                    t.banks[r] = new int[] {low, number(low, 8)};
                } else if (name.equals("wind")) {
                    t.winds.put(r, number(0, 2));
                } else {
                    t.lees.add(r);
                }
            }
        } else {
            throw new Stop(2, begun);
        }
        if (!token().equals(";")) {
            throw new Stop(2, begun);
        }
    }

    int text() {
        source = tape;
        tape = "";
        at = 0;
        Told t = new Told();
        Set<String> seen = new HashSet<>();
        List<Integer> reaches = new ArrayList<>();
        int lines = 0;
        try {
            for (String name = token(); !name.isEmpty(); name = token()) {
                line(name, t, seen, reaches);
                lines++;
            }
            for (int r : reaches) {
                if (r >= t.rule("reaches")) {
                    throw new Stop(5, source.length());
                }
            }
        } catch (Stop s) {
            fault = s.fault.number();
            return -10 - s.fault.place();
        }
        fault = 0;
        told = t;
        tables.clear();
        boat = new Boat(0, told.low(0), 0, 0, 0, 0);
        log = new ArrayList<>();
        swings = new ArrayList<>();
        images[0] = null;
        images[1] = null;
        return lines;
    }

    int rule(int what) {
        if (what >= 0 && what <= 6) {
            return told.rule(RULE_NAMES[what]);
        }
        if (what >= 10 && what <= 21) {
            return told.tide[what - 10] + 9;
        }
        return what >= 30 && what <= 41 ? told.high[what - 30] : BAD;
    }

    int reach(int r, int what) {
        if (r < 0 || r >= reaches()) {
            return BAD;
        }
        if (what >= 10 && what <= 18) {
            return told.depth(r, what - 10);
        }
        if (what >= 20 && what <= 28) {
            return told.eddies[r][what - 20] ? 1 : 0;
        }
        return switch (what) {
            case 0 -> told.low(r);
            case 1 -> told.high(r);
            case 2 -> told.lees.contains(r) ? 1 : 0;
            case 3 -> told.winds.getOrDefault(r, 1);
            case 4, 5 -> way(r, what - 4);
            default -> BAD;
        };
    }

    // ---- the river

    int reaches() {
        return told.rule("reaches");
    }

    int top() {
        return 8 * reaches();
    }

    int phase(int t, int later) {
        int beat = told.rule("beat");
        int m = ((t - later) % (12 * beat) + 12 * beat) % (12 * beat);
        return m / beat;
    }

    boolean open(int r, int lane) {
        return r >= 0 && r < reaches() && lane >= told.low(r) && lane <= told.high(r);
    }

    boolean floats(int r, int lane, int t, int later) {
        return open(r, lane) && told.depth(r, lane) + told.high[phase(t, later)] >= told.rule("draught");
    }

    int way(int r, int board) {
        if (told.lees.contains(r)) {
            return 1;
        }
        int lift = switch (told.winds.getOrDefault(r, 1)) {
            case 0 -> -told.rule("shift");
            case 2 -> told.rule("shift");
            default -> 0;
        };
        return board == 0 ? told.rule("point") + lift : told.rule("point") - lift;
    }

    int stream(int r, int lane, int t, int later) {
        int s = told.tide[phase(t, later)];
        boolean side = Math.abs(lane - told.low(r)) <= 1 || Math.abs(lane - told.high(r)) <= 1;
        int part = side ? Integer.signum(s) * (Math.abs(s) / 2) : s;
        return told.eddies[r][lane] ? -part : part;
    }

    int flow(int r, int lane, int t) {
        return lane < 0 || lane > 8 || t < 0 || t > 300 || !open(r, lane) ? -1000 : stream(r, lane, t, 0);
    }

    int afloat(int r, int lane, int t, int what) {
        if (r < 0 || r >= reaches() || lane < 0 || lane > 8 || t < 0 || t > 300 || what < 0 || what > 1) {
            return BAD;
        }
        for (int m = t; m <= 300; m++) {
            if (floats(r, lane, m, 0) != (what == 1)) {
                return m;
            }
        }
        return NONE;
    }

    // ---- the boat

    boolean up(Boat b) {
        return b.fine() >= top();
    }

    boolean floats(Boat b) {
        return !up(b) && floats(b.fine() / 8, b.lane(), b.minute(), 0);
    }

    /** Null: she can not. */
    Boat sailed(Boat b, int later) {
        if (up(b) || b.minute() + 1 > 300 || !floats(b.fine() / 8, b.lane(), b.minute(), later)) {
            return null;
        }
        int r = b.fine() / 8;
        int fine = Math.max(0, b.fine() + way(r, b.board()) + stream(r, b.lane(), b.minute(), later));
        if (fine >= top()) {
            return new Boat(fine, b.lane(), b.board(), b.minute() + 1, b.turns(), b.sailed() + 1);
        }
        int lane = b.lane() + 1 - 2 * b.board();
        return floats(fine / 8, lane, b.minute() + 1, later)
                ? new Boat(fine, lane, b.board(), b.minute() + 1, b.turns(), b.sailed() + 1) : null;
    }

    Boat turned(Boat b, int later) {
        int takes = told.rule("turn");
        if (up(b) || b.minute() + takes > 300 || !floats(b.fine() / 8, b.lane(), b.minute(), later)) {
            return null;
        }
        int fine = Math.max(0, b.fine() + takes * stream(b.fine() / 8, b.lane(), b.minute(), later));
        return fine >= top() || floats(fine / 8, b.lane(), b.minute() + takes, later)
                ? new Boat(fine, b.lane(), 1 - b.board(), b.minute() + takes, b.turns() + 1, b.sailed()) : null;
    }

    int sail(int n) {
        if (n < 1 || n > 99) {
            return BAD;
        }
        if (up(boat)) {
            return STATE;
        }
        if (boat.minute() + n > 300) {
            return FULL;
        }
        int before = boat.sailed();
        for (int i = 0; i < n && !up(boat); i++) {
            Boat next = sailed(boat, 0);
            boat = next == null ? boat.waits(1) : next;
        }
        return boat.sailed() - before;
    }

    int turn() {
        if (up(boat)) {
            return STATE;
        }
        if (boat.minute() + told.rule("turn") > 300) {
            return FULL;
        }
        Boat next = turned(boat, 0);
        boat = next == null ? boat.waits(1) : next;
        return next == null ? 0 : 1;
    }

    int anchor(int n) {
        if (n < 1 || n > 300) {
            return BAD;
        }
        if (boat.minute() + n > 300) {
            return FULL;
        }
        boat = boat.waits(n);
        return boat.minute();
    }

    int now(int what) {
        return switch (what) {
            case 0 -> boat.minute();
            case 1 -> boat.fine();
            case 2 -> boat.lane();
            case 3 -> boat.board();
            case 4 -> up(boat) || floats(boat) ? 1 : 0;
            case 5 -> up(boat) ? 1 : 0;
            case 6 -> boat.turns();
            case 7 -> boat.sailed();
            default -> BAD;
        };
    }

    int set(int fine, int lane, int board, int t) {
        if (fine < 0 || fine > top() - 1 || lane < 0 || lane > 8 || board < 0 || board > 1 || t < 0 || t > 300) {
            return BAD;
        }
        if (!open(fine / 8, lane)) {
            return BAD;
        }
        boat = new Boat(fine, lane, board, t, 0, 0);
        return floats(boat) ? 1 : 0;
    }

    // ---- the soonest way, from the last minute backwards over every state

    int[][][][] table(int a, int b, int goal, int later) {
        return tables.computeIfAbsent(List.of(a, b, goal, later), key -> {
            int[][][][] best = new int[301][top()][9][2];
            for (int t = 300; t >= 0; t--) {
                for (int fine = 0; fine < top(); fine++) {
                    for (int lane = 0; lane < 9; lane++) {
                        for (int board = 0; board < 2; board++) {
                            best[t][fine][lane][board] = value(best, new Boat(fine, lane, board, t, 0, 0), key);
                        }
                    }
                }
            }
            return best;
        });
    }

    private int value(int[][][][] best, Boat b, List<Integer> key) {
        if (b.lane() < key.get(0) || b.lane() > key.get(1) || !open(b.fine() / 8, b.lane())) {
            return NEVER;
        }
        if (b.fine() >= key.get(2) && floats(b.fine() / 8, b.lane(), b.minute(), key.get(3))) {
            return b.minute();
        }
        int least = b.minute() == 300 ? NEVER : look(best, b.waits(1), key);
        Boat s = sailed(b, key.get(3));
        Boat t = turned(b, key.get(3));
        if (s != null) {
            least = Math.min(least, look(best, s, key));
        }
        return t == null ? least : Math.min(least, look(best, t, key));
    }

    private int look(int[][][][] best, Boat b, List<Integer> key) {
        if (up(b)) {
            return b.minute();
        }
        return b.lane() < key.get(0) || b.lane() > key.get(1) ? NEVER : best[b.minute()][b.fine()][b.lane()][b.board()];
    }

    int value(Boat b) {
        return up(b) ? b.minute() : table(0, 8, top(), 0)[b.minute()][b.fine()][b.lane()][b.board()];
    }

    static int orNone(int v) {
        return v >= NEVER ? NONE : v;
    }

    int soonest() {
        return up(boat) ? STATE : orNone(value(boat));
    }

    int only(int a, int b) {
        if (a < 0 || a > 8 || b < 0 || b > 8 || a > b) {
            return BAD;
        }
        return up(boat) ? STATE : orNone(table(a, b, top(), 0)[boat.minute()][boat.fine()][boat.lane()][boat.board()]);
    }

    int first() {
        if (up(boat)) {
            return STATE;
        }
        int due = value(boat);
        if (due >= NEVER) {
            return NONE;
        }
        Boat s = sailed(boat, 0);
        Boat t = turned(boat, 0);
        return s != null && value(s) == due ? 0 : t != null && value(t) == due ? 1 : 2;
    }

    int from(int t) {
        return t < 0 || t > 300 ? BAD : orNone(value(new Boat(0, told.low(0), 0, t, 0, 0)));
    }

    int start(int what) {
        if (what < 0 || what > 2) {
            return BAD;
        }
        int latest = NONE;
        int quick = NONE;
        int least = NEVER;
        for (int t = 0; t <= 300; t++) {
            int up = from(t);
            if (up != NONE && up <= told.rule("dark")) {
                latest = t;
                if (up - t < least) {
                    least = up - t;
                    quick = t;
                }
            }
        }
        return what == 0 ? latest : what == 1 ? quick : orNone(least);
    }

    int days(int n, int k, int what) {
        if (n < 1 || n > 14 || k < 0 || k > 99 || what < 0 || what > 1) {
            return BAD;
        }
        int many = 0;
        int first = NONE;
        for (int d = n - 1; d >= 0; d--) {
            int later = d * k % (12 * told.rule("beat"));
            if (table(0, 8, top(), later)[0][0][told.low(0)][0] <= told.rule("dark")) {
                many++;
                first = d;
            }
        }
        return what == 0 ? many : first;
    }

    // ---- a skipper: all the minutes, each with where she is

    /** The boat minute by minute, from now on; the last is the one that is up or in minute 300. */
    List<Boat> track(int m, int e) {
        List<Boat> all = new ArrayList<>();
        Boat b = new Boat(boat.fine(), boat.lane(), boat.board(), boat.minute(), 0, 0);
        boolean free = true;
        all.add(b);
        while (!up(b) && b.minute() < 300) {
            Boat next = null;
            boolean turns = false;
            if (floats(b)) {
                int r = b.fine() / 8;
                int ahead = b.lane() + 1 - 2 * b.board();
                turns = !open(r, ahead)
                        || told.depth(r, ahead) + told.high[phase(b.minute(), 0)] < told.rule("draught") + m
                        || e == 1 && free && way(r, 1 - b.board()) > way(r, b.board());
                next = turns ? turned(b, 0) : sailed(b, 0);
            }
            if (next == null) {
                next = b.waits(1);
            } else {
                free = !turns;
            }
            for (int t = b.minute() + 1; t < next.minute(); t++) {
                all.add(b.waits(t - b.minute()));
            }
            b = next;
            all.add(b);
        }
        return all;
    }

    int skipper(int m, int e, int what) {
        if (m < 0 || m > 20 || e < 0 || e > 1 || what < 0 || what > 2) {
            return BAD;
        }
        if (up(boat)) {
            return STATE;
        }
        List<Boat> track = track(m, e);
        Boat last = track.get(track.size() - 1);
        return what == 1 ? last.turns() : what == 2 ? last.sailed() : up(last) ? last.minute() : NONE;
    }

    int best(int e, int what) {
        if (e < 0 || e > 1 || what < 0 || what > 1) {
            return BAD;
        }
        if (up(boat)) {
            return STATE;
        }
        int least = NEVER;
        int which = NONE;
        for (int m = 20; m >= 0; m--) {
            int up = skipper(m, e, 0);
            if (up != NONE && up <= least) {
                least = up;
                which = m;
            }
        }
        return what == 0 ? which : orNone(least);
    }

    int loses(int m, int e) {
        int up = skipper(m, e, 0);
        return up < 0 ? up : up - soonest();
    }

    int barge(int lane, int at, int m, int e, int what) {
        if (lane < 0 || lane > 8 || at < 0 || at > 300 || m < 0 || m > 20 || e < 0 || e > 1 || what < 0 || what > 1) {
            return BAD;
        }
        if (up(boat)) {
            return STATE;
        }
        for (Boat b : track(m, e)) {
            int r = reaches() - 1 - (b.minute() - at);
            if (b.minute() >= at && r >= 0 && !up(b) && b.fine() / 8 == r && b.lane() == lane) {
                return what == 0 ? b.minute() : r;
            }
        }
        return NONE;
    }

    // ---- a narrow place, a lead

    int narrow(int f) {
        if (f < -9 || f > 9) {
            return BAD;
        }
        for (int lanes = 2; lanes <= 9; lanes++) {
            int fine = 0;
            for (int lane = 1; lane < lanes; lane++) {
                fine += told.rule("point") + f;
            }
            for (int minute = 0; minute < told.rule("turn"); minute++) {
                fine += f;
            }
            if (fine > 0) {
                return lanes;
            }
        }
        return NONE;
    }

    int shoal(int r, int... chances) {
        int sum = 0;
        for (int off = -1; off <= 1; off++) {
            sum += r - off < told.rule("draught") ? chances[off + 1] : 0;
        }
        return sum;
    }

    static boolean chances(int... chances) {
        int sum = 0;
        for (int c : chances) {
            if (c < 0 || c > 9) {
                return false;
            }
            sum += c;
        }
        return sum > 0;
    }

    int lead(int r, int a, int b, int c, int what) {
        if (r < 0 || r > 30 || !chances(a, b, c) || what < 0 || what > 1) {
            return BAD;
        }
        int part = shoal(r, a, b, c);
        int shared = java.math.BigInteger.valueOf(part).gcd(java.math.BigInteger.valueOf(a + b + c)).intValue();
        return what == 0 ? part / shared : (a + b + c) / shared;
    }

    int near(int a, int b, int c, int x, int y) {
        if (!chances(a, b, c) || x < 0 || x > 99 || y < 1 || y > 99) {
            return BAD;
        }
        for (int r = 0; r <= 30; r++) {
            boolean all = true;
            for (int more = r; more <= 30; more++) {
                all &= shoal(more, a, b, c) * y <= x * (a + b + c);
            }
            if (all) {
                return r;
            }
        }
        return NONE;
    }

    // ---- a log, a wind that swings

    int logged(int r, int t) {
        if (r < 0 || r > reaches() || t < 0 || t > 300) {
            return BAD;
        }
        if (!log.isEmpty() && (r <= log.get(log.size() - 1)[0] || t <= log.get(log.size() - 1)[1])) {
            return BAD;
        }
        if (log.size() == 12) {
            return FULL;
        }
        log.add(new int[] {r, t});
        return log.size();
    }

    int lost(int what) {
        if (what < 0 || what > 1) {
            return -1000;
        }
        Integer most = null;
        int where = -1001;
        for (int i = 0; i + 1 < log.size(); i++) {
            int r = log.get(i)[0];
            int t = log.get(i)[1];
            int least = NEVER;
            for (int lane = 0; lane < 9; lane++) {
                for (int board = 0; board < 2; board++) {
                    if (floats(r, lane, t, 0)) {
                        least = Math.min(least, table(0, 8, 8 * log.get(i + 1)[0], 0)[t][8 * r][lane][board]);
                    }
                }
            }
            if (least < NEVER && (most == null || log.get(i + 1)[1] - least > most)) {
                most = log.get(i + 1)[1] - least;
                where = i;
            }
        }
        return what == 1 ? where : most == null ? -1001 : most;
    }

    int swing(int v) {
        if (v < 0 || v > 2) {
            return BAD;
        }
        if (swings.size() == 40) {
            return FULL;
        }
        swings.add(v);
        return swings.size();
    }

    int judged(int n) {
        if (n < 1 || n > 20) {
            return BAD;
        }
        int right = 0;
        for (int i = n; i < swings.size(); i++) {
            double mean = swings.subList(i - n, i).stream().mapToInt(v -> v).average().orElse(0);
            right += Math.floor(mean + 0.5) == swings.get(i) ? 1 : 0;
        }
        return right;
    }

    int judge(int what) {
        if (what < 0 || what > 2) {
            return BAD;
        }
        int best = NONE;
        double part = -1;
        for (int n = 1; n <= 20; n++) {
            int all = swings.size() - n;
            if (all > 0 && (double) judged(n) / all > part) {
                part = (double) judged(n) / all;
                best = n;
            }
        }
        return best == NONE || what == 0 ? best : what == 1 ? judged(best) : swings.size() - best;
    }

    // ---- images, sheets

    int keep(int i) {
        if (i < 0 || i > 1) {
            return BAD;
        }
        int was = images[i] == null ? 0 : 1;
        images[i] = new Image(boat, List.copyOf(log), List.copyOf(swings));
        return was;
    }

    int back(int i) {
        if (i < 0 || i > 1) {
            return BAD;
        }
        if (images[i] == null) {
            return STATE;
        }
        boat = images[i].boat();
        log = new ArrayList<>(images[i].log());
        swings = new ArrayList<>(images[i].swings());
        return boat.minute();
    }

    int sheet(int k, int lane, int n) {
        if (k < 0 || k > 3 || lane < 0 || lane > 2 || n > 40) {
            return BAD;
        }
        try {
            sheets[k] = lane == 0 ? new byte[n] : lane == 1 ? (Object) new short[n] : new int[n];
            return 1;
        } catch (NegativeArraySizeException e) {
            return -14;
        }
    }

    int lay(int k, int i, int v) {
        if (k < 0 || k > 3) {
            return BAD;
        }
        try {
            if (sheets[k] instanceof byte[] b) {
                b[i] = (byte) v;
            } else if (sheets[k] instanceof short[] s) {
                s[i] = (short) v;
            } else {
                ((int[]) sheets[k])[i] = v;
            }
            return 1;
        } catch (NullPointerException e) {
            return -11;
        } catch (IndexOutOfBoundsException e) {
            return -12;
        }
    }

    private static int cell(Object sheet, int lane, int i) {
        return lane == 0 ? ((byte[]) sheet)[i] : lane == 1 ? ((short[]) sheet)[i] : ((int[]) sheet)[i];
    }

    int read(int k, int lane, int f, int n) {
        if (k < 0 || k > 3 || lane < 0 || lane > 2 || n < 0 || n > 12) {
            return BAD;
        }
        List<int[]> before = new ArrayList<>(log);
        int found = 0;
        int came = 0;
        try {
            for (int i = 0; i < n; i++) {
                if (logged(cell(sheets[k], lane, f + 2 * i), cell(sheets[k], lane, f + 2 * i + 1)) < 0) {
                    log = before;
                    return -20 - i;
                }
                came++;
            }
        } catch (NullPointerException e) {
            found = 1;
        } catch (IndexOutOfBoundsException e) {
            found = 2;
        } catch (ClassCastException e) {
            found = 3;
        }
        torn = found;
        return came;
    }

    int count(int what) {
        return switch (what) {
            case 0 -> log.size();
            case 1 -> swings.size();
            case 2 -> told.eddiesTold;
            case 3 -> told.lees.size();
            case 4 -> (images[0] == null ? 0 : 1) + (images[1] == null ? 0 : 1);
            case 5 -> tape.length();
            case 6 -> sheets[0] == null ? NONE : java.lang.reflect.Array.getLength(sheets[0]);
            default -> BAD;
        };
    }
}
