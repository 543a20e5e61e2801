import java.util.Set;
import java.util.TreeMap;
import java.util.TreeSet;
import java.util.function.IntUnaryOperator;

/** What the tests of the edges share: the sentence that is looked at, the answers due, rivers told by a text. */
final class Checks {
    static final int BAD = -1, STATE = -2, FULL = -3, NONE = -4;
    static final int LEAST = Integer.MIN_VALUE, MOST = Integer.MAX_VALUE;

    /** By its key, each sentence that has a test, as the document words it. */
    static final TreeMap<String, String> SENTENCES = new TreeMap<>();
    /** The keys of those that do not hold. */
    static final Set<String> BROKEN = new TreeSet<>();

    /** The key of the sentence that is looked at; whether to say nothing of what is wrong: both for Mutants. */
    static final String[] KEY = {""};
    static final boolean[] QUIET = {false};

    private static int asked;
    private static int wrong;

    private Checks() {
    }

    /** What is due from here on belongs to this sentence; a key begins with its promise, or with T for the terms. */
    static void sentence(String newKey, String words) {
        KEY[0] = newKey;
        String old = SENTENCES.put(newKey, words);
        if (old != null && !old.equals(words)) {
            throw new IllegalStateException("two sentences of the key " + newKey);
        }
    }

    static void due(String what, long got, long want) {
        due(what, Long.toString(got), Long.toString(want));
    }

    static void due(String what, String got, String want) {
        asked++;
        if (!got.equals(want)) {
            wrong++;
            BROKEN.add(KEY[0]);
            say(what + " answered " + firstLineUnlike(got, want) + ", due is " + firstLineUnlike(want, got));
        }
    }

    private static void say(String what) {
        if (!QUIET[0]) {
            System.out.println(KEY[0] + " (" + SENTENCES.get(KEY[0]) + "): " + what);
        }
    }

    private static String firstLineUnlike(String text, String other) {
        String[] lines = text.split("\n");
        String[] others = other.split("\n");
        for (int i = 0; i < lines.length; i++) {
            if (i >= others.length || !lines[i].equals(others[i])) {
                return lines[i];
            }
        }
        return text;
    }

    static void allAre(int want, String what, IntUnaryOperator call, int... arguments) {
        for (int a : arguments) {
            due(what + " of " + a, call.applyAsInt(a), want);
        }
    }

    static void finish() {
        System.out.println(SENTENCES.size() + " sentences, " + asked + " answers, " + wrong + " wrong");
        System.exit(wrong == 0 ? 0 : 1);
    }

    // ---- texts

    /** Puts the signs on the tape and cuts off the blanks that fill the last eight. */
    static void feedText(UpRiver x, String text) {
        int had = x.count(5);
        StringBuilder b = new StringBuilder(text);
        while (b.length() % 8 != 0) {
            b.append(' ');
        }
        for (int i = 0; i < b.length(); i += 8) {
            long v = 0;
            for (int j = 0; j < 8; j++) {
                v = v << 8 | b.charAt(i + j) & 255;
            }
            x.feed(v);
        }
        x.end(had + text.length());
    }

    static int tell(UpRiver x, String text) {
        feedText(x, text);
        return x.text();
    }

    static UpRiver river(String text) {
        UpRiver x = new UpRiver();
        due("text() of " + text, tell(x, text), text.chars().filter(c -> c == ';').count());
        return x;
    }

    static String twelve(String name, int value) {
        return name + (" " + value).repeat(12) + ";";
    }

    /** Twelve numbers of which the first are told, the rest is one and the same. */
    static String phases(String name, int rest, int... told) {
        StringBuilder b = new StringBuilder(name);
        for (int p = 0; p < 12; p++) {
            b.append(' ').append(p < told.length ? told[p] : rest);
        }
        return b.append(';').toString();
    }

    static void taken(String text) {
        UpRiver x = new UpRiver();
        due("text() of '" + text + "'", tell(x, text), text.chars().filter(c -> c == ';').count());
        due("fault() of '" + text + "'", x.fault(), 0);
    }

    static void faulty(String text, int fault, int place) {
        UpRiver x = new UpRiver();
        due("text() of '" + text + "'", tell(x, text), -10 - place);
        due("fault() of '" + text + "'", x.fault(), fault);
    }

    // ---- all that can be seen of an object

    static String boat(UpRiver x) {
        StringBuilder b = new StringBuilder();
        for (int what = 0; what < 8; what++) {
            b.append(x.now(what)).append(what < 7 ? " " : "");
        }
        return b.toString();
    }

    private static void seeRiver(UpRiver x, StringBuilder b) {
        b.append("\nriver");
        for (int what = 0; what < 42; what++) {
            b.append(' ').append(x.rule(what));
        }
        for (int r = 0; r < 8; r++) {
            for (int what = 0; what < 29; what++) {
                b.append(' ').append(x.reach(r, what));
            }
        }
        b.append(", ").append(x.from(0)).append(' ').append(x.from(100));
    }

    private static void seeVoyage(UpRiver x, StringBuilder b) {
        b.append("\nvoyage ").append(boat(x)).append(", ");
        for (int what = 0; what < 7; what++) {
            b.append(' ').append(x.count(what));
        }
        for (int n = 1; n <= 20; n++) {
            b.append(' ').append(x.judged(n));
        }
        b.append(", ").append(x.judge(0)).append(' ').append(x.judge(1)).append(' ').append(x.judge(2));
        b.append(", ").append(x.lost(0)).append(' ').append(x.lost(1));
        b.append(", ").append(x.soonest()).append(' ').append(x.first()).append(' ').append(x.torn());
    }

    /** What is behind the latest that was logged; it is logged then. */
    private static void seeLog(UpRiver x, StringBuilder b) {
        b.append("\nlog");
        for (int r = 0; r <= 8; r++) {
            b.append(' ').append(x.logged(r, 300));
        }
    }

    /** Which cells log something, and what. */
    private static void seeSheets(UpRiver x, StringBuilder b) {
        x.end(0);
        x.text();
        x.keep(0);
        for (int k = 0; k < 4; k++) {
            for (int lane = 0; lane < 3; lane++) {
                for (int f = 0; f < 40; f++) {
                    b.append(f == 0 ? "\nsheet " : " ").append(x.read(k, lane, f, 1)).append(x.torn());
                    x.swing(0);
                    seeLogOfOne(x, b);
                    x.back(0);
                }
            }
        }
    }

    private static void seeLogOfOne(UpRiver x, StringBuilder b) {
        if (x.count(0) == 0) {
            return;
        }
        x.keep(1);
        for (int r = 0; r <= 6; r++) {
            b.append('.').append(x.logged(r, 300));
        }
        x.back(1);
        for (int t = 0; t <= 300 && x.count(0) == 1; t++) {
            b.append(x.logged(6, t) > 0 ? ":" + t : "");
        }
    }

    /** All that an object answers from here on, by calls that use it up. */
    static String seen(UpRiver x) {
        return "\nfault " + x.fault() + seenButFault(x);
    }

    static String seenButFault(UpRiver x) {
        StringBuilder b = new StringBuilder();
        seeRiver(x, b);
        seeVoyage(x, b);
        seeLog(x, b);
        for (int i = 0; i < 2; i++) {
            b.append("\nimage ").append(x.back(i));
            seeVoyage(x, b);
            seeLog(x, b);
        }
        b.append("\ntext ").append(x.text()).append(' ').append(x.fault());
        seeRiver(x, b);
        seeVoyage(x, b);
        seeSheets(x, b);
        return b.toString();
    }
}
