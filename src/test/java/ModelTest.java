import java.util.ArrayList;
import java.util.List;
import java.util.Random;

/** Random runs of calls, answered by UpRiver and by the slow model of the document; all answers must agree. */
public final class ModelTest {
    private static final String[] CALLS = {"rule", "reach", "flow", "afloat", "sail", "turn", "anchor", "now", "set",
        "soonest", "only", "first", "from", "start", "days", "skipper", "best", "loses", "narrow", "lead", "near",
        "logged", "lost", "swing", "judged", "judge", "barge", "keep", "back", "sheet", "lay", "read", "torn", "count",
        "end", "fault"};
    private static final int[] EDGES = {-1, 0, 1, 2, 3, 8, 9, 10, 12, 20, 30, 39, 40, 41, 99, 100, 299, 300, 301,
        Integer.MAX_VALUE, Integer.MIN_VALUE, -9, -10};

    private final Random random;
    private final UpRiver real = new UpRiver();
    private final Model model = new Model();
    private final List<String> calls = new ArrayList<>();
    private int wrong;

    private ModelTest(long seed) {
        random = new Random(seed);
    }

    public static void main(String[] args) {
        int wrong = 0;
        int runs = args.length > 0 ? Integer.parseInt(args[0]) : 100;
        for (int seed = 0; seed < runs && wrong == 0; seed++) {
            wrong += new ModelTest(seed).run(seed);
        }
        for (int seed = 0; seed < 20 * runs && wrong == 0; seed++) {
            wrong += new ModelTest(seed).texts(seed);
        }
        System.out.println(wrong == 0 ? "both answer alike" : "they differ");
        System.exit(wrong == 0 ? 0 : 1);
    }

    private void due(int got, int want, String call, int... args) {
        StringBuilder b = new StringBuilder(call).append(java.util.Arrays.toString(args)).append(" = ").append(got);
        calls.add(b.toString());
        if (got != want) {
            wrong++;
            calls.add("   due is " + want);
        }
    }

    private int report(String what) {
        if (wrong > 0) {
            System.out.println(what);
            calls.forEach(System.out::println);
        }
        return wrong;
    }

    private int between(int a, int b) {
        return a + random.nextInt(b - a + 1);
    }

    /** Mostly within bounds, now and then at an edge or beyond. */
    private int arg(int least, int most) {
        int dice = random.nextInt(24);
        if (dice == 0) {
            return EDGES[random.nextInt(EDGES.length)];
        }
        return dice == 1 ? least - 1 : dice == 2 ? most + 1 : dice == 3 ? least : dice == 4 ? most : between(least, most);
    }

    private void tell(String text) {
        calls.add("-- " + text);
        StringBuilder b = new StringBuilder(text);
        while (b.length() % 8 != 0) {
            b.append(' ');
        }
        for (int i = 0; i < b.length(); i += 8) {
            long v = 0;
            for (int j = 0; j < 8; j++) {
                v = v << 8 | b.charAt(i + j) & 255;
            }
            due(real.feed(v), model.feed(v), "feed");
        }
        if (text.length() <= 400) {
            due(real.end(text.length()), model.end(text.length()), "end", text.length());
        }
        due(real.text(), model.text(), "text");
        due(real.fault(), model.fault, "fault");
    }

    private String river() {
        int reaches = between(2, 8);
        int draught = between(1, 20);
        boolean shallow = random.nextInt(3) > 0;
        List<String> lines = new ArrayList<>();
        lines.add("reaches " + reaches);
        lines.add("draught " + draught);
        String[][] rules = {{"beat", "5", "40"}, {"point", "1", "8"}, {"shift", "0", "8"}, {"turn", "1", "9"}, {"dark", "1", "300"}};
        for (String[] rule : rules) {
            if (random.nextInt(3) > 0) {
                lines.add(rule[0] + " " + between(Integer.parseInt(rule[1]), Integer.parseInt(rule[2])));
            }
        }
        for (int r = 0; r < reaches; r++) {
            if (random.nextInt(3) == 0) {
                int low = between(0, 8);
                lines.add("bank " + r + " " + (random.nextBoolean() ? low / 2 : low) + " " + between(low, 8));
            }
            if (random.nextInt(3) == 0) {
                lines.add("wind " + r + " " + between(0, 2));
            }
            if (random.nextInt(8) == 0) {
                lines.add("lee " + r);
            }
            for (int lane = 0; lane < 9; lane++) {
                if (random.nextInt(10) == 0) {
                    lines.add("deep " + r + " " + lane + " " + Math.max(0, Math.min(30, draught + between(-8, 4))));
                }
                if (random.nextInt(20) == 0) {
                    lines.add("eddy " + r + " " + lane);
                }
            }
        }
        lines.add(phases("tide", random.nextInt(3) == 0 ? 18 : 13));
        if (shallow) {
            lines.add(phases("high", random.nextInt(2) == 0 ? 15 : 7));
        }
        java.util.Collections.shuffle(lines, random);
        StringBuilder b = new StringBuilder();
        for (String line : lines) {
            if (b.length() + line.length() < 399) {
                b.append(line).append(';');
            }
        }
        return b.toString();
    }

    private String phases(String name, int most) {
        StringBuilder b = new StringBuilder(name);
        for (int p = 0; p < 12; p++) {
            b.append(' ').append(between(Math.max(0, most - 13), most));
        }
        return b.toString();
    }

    private int run(long seed) {
        tell(river());
        for (int i = 0; i < 150 && wrong == 0; i++) {
            if (random.nextInt(120) == 0) {
                tell(random.nextBoolean() ? river() : torn(river()));
            }
            call(CALLS[random.nextInt(CALLS.length)]);
            due(real.now(0) * 100 + real.now(1), model.now(0) * 100 + model.now(1), "now 0, 1");
        }
        return report("run " + seed);
    }

    private int texts(long seed) {
        for (int i = 0; i < 4 && wrong == 0; i++) {
            tell(torn(river()));
            for (int what = 0; what < 42; what++) {
                due(real.rule(what), model.rule(what), "rule", what);
            }
            for (int r = 0; r < 8; r++) {
                for (int what = 0; what < 30; what++) {
                    due(real.reach(r, what), model.reach(r, what), "reach", r, what);
                }
            }
        }
        return report("texts " + seed);
    }

    /** A text with a few bytes put in, taken out, or changed. */
    private String torn(String text) {
        StringBuilder b = new StringBuilder(text);
        String signs = " ;0123456789abcdefghilnoprstuw.,AZ\u0000\u00e4\u00ff";
        String[] pieces = {"lee 1;", "eddy 1 1;", "deep 0 0 3;", "bank 1 0 8;", "wind 7 1;", "dark 3;", "high", "lee", ";;", "0007", "   "};
        for (int n = random.nextInt(4); n > 0 && b.length() > 0; n--) {
            int at = random.nextInt(b.length());
            switch (random.nextInt(5)) {
                case 0 -> b.insert(at, signs.charAt(random.nextInt(signs.length())));
                case 1 -> b.deleteCharAt(at);
                case 2 -> b.setCharAt(at, signs.charAt(random.nextInt(signs.length())));
                case 3 -> b.insert(b.indexOf(";", at) + 1, pieces[random.nextInt(pieces.length)]);
                default -> b.setLength(at);
            }
        }
        return b.length() > 400 ? b.substring(0, 400) : b.toString();
    }

    private void call(String name) {
        switch (name) {
            case "rule", "now", "from", "start", "narrow", "lost", "swing", "judged", "judge", "keep", "back", "count",
                "sail", "anchor", "end" -> callOne(name);
            case "turn" -> due(real.turn(), model.turn(), name);
            case "soonest" -> due(real.soonest(), model.soonest(), name);
            case "first" -> due(real.first(), model.first(), name);
            case "torn" -> due(real.torn(), model.torn, name);
            case "fault" -> due(real.fault(), model.fault, name);
            default -> callMore(name);
        }
    }

    private void callOne(String name) {
        int a = switch (name) {
            case "rule" -> arg(0, 41);
            case "now" -> arg(0, 7);
            case "from" -> arg(0, 300);
            case "narrow" -> arg(-9, 9);
            case "judged" -> arg(1, 20);
            case "count" -> arg(0, 6);
            case "sail" -> arg(1, random.nextInt(3) == 0 ? 99 : 5);
            case "anchor" -> arg(1, random.nextInt(3) == 0 ? 300 : 20);
            case "end" -> arg(0, 10);
            case "start", "judge", "swing" -> arg(0, 2);
            default -> arg(0, 1);
        };
        switch (name) {
            case "rule" -> due(real.rule(a), model.rule(a), name, a);
            case "now" -> due(real.now(a), model.now(a), name, a);
            case "from" -> due(real.from(a), model.from(a), name, a);
            case "start" -> due(real.start(a), model.start(a), name, a);
            case "narrow" -> due(real.narrow(a), model.narrow(a), name, a);
            case "lost" -> due(real.lost(a), model.lost(a), name, a);
            case "swing" -> manySwings(a);
            case "judged" -> due(real.judged(a), model.judged(a), name, a);
            case "judge" -> due(real.judge(a), model.judge(a), name, a);
            case "keep" -> due(real.keep(a), model.keep(a), name, a);
            case "back" -> due(real.back(a), model.back(a), name, a);
            case "count" -> due(real.count(a), model.count(a), name, a);
            case "sail" -> due(real.sail(a), model.sail(a), name, a);
            case "end" -> due(real.end(a), model.end(a), name, a);
            default -> due(real.anchor(a), model.anchor(a), name, a);
        }
    }

    private void manySwings(int a) {
        due(real.swing(a), model.swing(a), "swing", a);
        for (int n = random.nextInt(8); n > 0; n--) {
            int v = random.nextInt(3);
            due(real.swing(v), model.swing(v), "swing", v);
        }
    }

    private void callMore(String name) {
        int top = 8 * model.reaches();
        int r = arg(0, model.reaches() - 1), lane = arg(0, 8), t = arg(0, 300), yes = arg(0, 1), m = arg(0, 20), e = arg(0, 1);
        int a = arg(0, 9), b = arg(0, 9), c = arg(0, 9), k = arg(0, 3), kind = arg(0, 2), what = arg(0, 2);
        int fine = arg(0, top - 1), x = arg(0, 99), y = arg(1, 99), shown = arg(0, 30), of = arg(0, 29);
        switch (name) {
            case "reach" -> due(real.reach(r, of), model.reach(r, of), name, r, of);
            case "flow" -> due(real.flow(r, lane, t), model.flow(r, lane, t), name, r, lane, t);
            case "afloat" -> due(real.afloat(r, lane, t, yes), model.afloat(r, lane, t, yes), name, r, lane, t, yes);
            case "set" -> due(real.set(fine, lane, yes, t), model.set(fine, lane, yes, t), name, fine, lane, yes, t);
            case "only" -> due(real.only(Math.min(a, lane), lane), model.only(Math.min(a, lane), lane), name, Math.min(a, lane), lane);
            case "days" -> due(real.days(k + 1, x, yes), model.days(k + 1, x, yes), name, k + 1, x, yes);
            case "skipper" -> due(real.skipper(m, e, what), model.skipper(m, e, what), name, m, e, what);
            case "best" -> due(real.best(e, yes), model.best(e, yes), name, e, yes);
            case "loses" -> due(real.loses(m, e), model.loses(m, e), name, m, e);
            case "lead" -> due(real.lead(shown, a, b, c, yes), model.lead(shown, a, b, c, yes), name, shown, a, b, c, yes);
            case "near" -> due(real.near(a, b, c, x, y), model.near(a, b, c, x, y), name, a, b, c, x, y);
            case "logged" -> manyLogged();
            case "barge" -> barges(m, e);
            case "sheet" -> due(real.sheet(k, kind, shown + a), model.sheet(k, kind, shown + a), name, k, kind, shown + a);
            case "lay" -> lays(k);
            case "read" -> reads(k, kind);
            default -> due(1, 0, "no such call: " + name);
        }
    }

    private void manyLogged() {
        if (random.nextInt(3) == 0 && model.images[0] != null) {
            due(real.back(0), model.back(0), "back", 0);
        }
        int r = 0, t = 0;
        for (int i = random.nextInt(5); i >= 0; i--) {
            r += arg(0, 2);
            t += arg(1, 40);
            int reach = r, minute = t;
            due(real.logged(reach, minute), model.logged(reach, minute), "logged", reach, minute);
        }
        due(real.lost(0), model.lost(0), "lost", 0);
        due(real.lost(1), model.lost(1), "lost", 1);
    }

    private void barges(int m, int e) {
        for (int i = 0; i < 10; i++) {
            int lane = arg(0, 8), at = arg(0, i < 5 ? 30 : 300), what = arg(0, 1);
            due(real.barge(lane, at, m, e, what), model.barge(lane, at, m, e, what), "barge", lane, at, m, e, what);
        }
    }

    private void lays(int k) {
        for (int i = 0; i < 10; i++) {
            int cell = arg(0, 20), v = i % 2 == 0 ? arg(0, 8) : random.nextInt();
            due(real.lay(k, cell, v), model.lay(k, cell, v), "lay", k, cell, v);
        }
    }

    /** A sheet whose cells mostly make a good log, so that some come. */
    private void reads(int k, int kind) {
        int from = arg(0, 10), n = arg(0, 12), cells = arg(0, 40);
        due(real.sheet(k, kind, cells), model.sheet(k, kind, cells), "sheet", k, kind, cells);
        int r = random.nextInt(2), t = random.nextInt(10), good = random.nextInt(8);
        for (int i = 0; i <= good && from >= 0 && from < 40; i++) {
            int reach = r, minute = t, at = from + 2 * i;
            due(real.lay(k, at, reach), model.lay(k, at, reach), "lay", k, at, reach);
            due(real.lay(k, at + 1, minute), model.lay(k, at + 1, minute), "lay", k, at + 1, minute);
            r += 1;
            t += between(1, 20);
        }
        int as = random.nextInt(6) == 0 ? arg(0, 2) : kind;
        due(real.read(k, as, from, n), model.read(k, as, from, n), "read", k, as, from, n);
        due(real.torn(), model.torn, "torn");
        due(real.lost(0), model.lost(0), "lost", 0);
    }
}
