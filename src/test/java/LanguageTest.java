import java.io.IOException;
import java.lang.reflect.Constructor;
import java.lang.reflect.Field;
import java.lang.reflect.Member;
import java.lang.reflect.Method;
import java.lang.reflect.Modifier;
import java.nio.charset.StandardCharsets;
import java.nio.file.Files;
import java.nio.file.Path;
import java.util.Arrays;
import java.util.HashSet;
import java.util.List;
import java.util.Set;
import java.util.TreeSet;
import java.util.regex.Matcher;
import java.util.regex.Pattern;

/** The rules of LANGUAGE.md that a machine can look at, and the document's face. */
public final class LanguageTest {
    private static final String FACE = "int feed(long) int end(int) int text() int fault() int rule(int) int reach(int,int) "
            + "int flow(int,int,int) int afloat(int,int,int,int) int sail(int) int turn() int anchor(int) int now(int) "
            + "int set(int,int,int,int) int soonest() int only(int,int) int first() int from(int) int start(int) "
            + "int days(int,int,int) int skipper(int,int,int) int best(int,int) int loses(int,int) int narrow(int) "
            + "int lead(int,int,int,int,int) int near(int,int,int,int,int) int logged(int,int) int lost(int) int swing(int) "
            + "int judged(int) int judge(int) int barge(int,int,int,int,int) int keep(int) int back(int) int sheet(int,int,int) "
            + "int lay(int,int,int) int read(int,int,int,int) int torn() int count(int)";
    private static final List<String> WORDS = List.of("throw", "throws", "try", "catch", "finally", "synchronized", "assert",
            "import", "package", "protected", "goto", "native", "volatile", "transient", "var", "Object", "Iterator", "System",
            "Thread", "Random", "Long", "Integer", "Arrays");
    private static final Set<String> MATH = Set.of("max", "min", "floorMod", "floorDiv");

    private static int wrong;

    public static void main(String[] args) throws IOException, ReflectiveOperationException {
        String source = Files.readString(Path.of("src/main/java/UpRiver.java"), StandardCharsets.UTF_8);
        String code = withoutComments(source);
        signs(source);
        words(code);
        methodLengths(code);
        face();
        classes();
        calls();
        System.out.println(wrong == 0 ? "the language is kept to" : wrong + " rules are broken");
        System.exit(wrong == 0 ? 0 : 1);
    }

    private static void broken(int rule, boolean isBroken, String what) {
        if (isBroken) {
            wrong++;
            System.out.println("rule " + rule + ": " + what);
        }
    }

    private static String withoutComments(String source) {
        return source.replaceAll("(?s)/\\*.*?\\*/", "").replaceAll("//[^\n]*", "").replaceAll("\"[^\"\n]*\"", "\"\"");
    }

    private static void signs(String source) {
        for (char c : source.toCharArray()) {
            broken(4, c != '\n' && (c < 32 || c > 126), "the sign " + (int) c);
        }
    }

    private static void words(String code) {
        for (String word : WORDS) {
            broken(6, Pattern.compile("\\b" + word + "\\b").matcher(code).find(), "the word " + word);
        }
        broken(2, code.contains("->") || code.contains("::"), "a lambda or a method reference");
        broken(3, code.contains("double") || code.contains("float "), "a double or float");
        Matcher m = Pattern.compile("\\bMath\\.(\\w+)").matcher(code);
        while (m.find()) {
            broken(4, !MATH.contains(m.group(1)), "Math." + m.group(1));
        }
    }

    private static void methodLengths(String code) {
        String[] lines = code.split("\n");
        int begun = -1;
        String end = "";
        for (int i = 0; i < lines.length; i++) {
            if (begun < 0 && lines[i].matches("( {4}| {8})[\\w\\[\\] ]+\\([^()]*\\) \\{")) {
                begun = i;
                end = lines[i].replaceAll("\\S.*", "") + "}";
            } else if (begun >= 0 && lines[i].equals(end)) {
                broken(11, i - begun > 60, "long: " + lines[begun]);
                begun = -1;
            }
        }
    }

    private static void face() throws ReflectiveOperationException {
        Set<String> want = new TreeSet<>(Arrays.asList(FACE.split(" (?=int )")));
        Set<String> got = new TreeSet<>();
        Set<String> publicNames = new HashSet<>();
        for (Method m : UpRiver.class.getDeclaredMethods()) {
            if (Modifier.isPublic(m.getModifiers())) {
                publicNames.add(m.getName());
                String types = Arrays.stream(m.getParameterTypes()).map(Class::getSimpleName).reduce((a, b) -> a + "," + b).orElse("");
                got.add(m.getReturnType().getSimpleName() + " " + m.getName() + "(" + types + ")");
            } else {
                hidden(m);
            }
        }
        broken(1, !want.equals(got), "the face is " + got);
        for (Class<?> c : UpRiver.class.getDeclaredClasses()) {
            for (Method m : c.getDeclaredMethods()) {
                broken(1, publicNames.contains(m.getName()), "a method of " + c + " named " + m.getName());
            }
        }
        for (Field f : UpRiver.class.getDeclaredFields()) {
            if (!List.of("BAD", "STATE", "FULL", "NONE").contains(f.getName())) {
                hidden(f);
            } else {
                broken(1, f.getModifiers() != (Modifier.PUBLIC | Modifier.STATIC | Modifier.FINAL), f.toString());
            }
        }
        Constructor<?>[] made = UpRiver.class.getDeclaredConstructors();
        broken(1, made.length != 1 || made[0].getParameterCount() != 0, "constructors");
        broken(1, UpRiver.class.getModifiers() != (Modifier.PUBLIC | Modifier.FINAL), "public and final");
    }

    private static void hidden(Member m) {
        broken(1, !m.isSynthetic() && !Modifier.isPrivate(m.getModifiers()), "not private: " + m);
    }

    private static void classes() {
        Class<?>[] inside = UpRiver.class.getDeclaredClasses();
        broken(11, inside.length > 11, "classes: " + inside.length);
        for (Class<?> c : inside) {
            broken(2, !Modifier.isStatic(c.getModifiers()), "not static: " + c);
            fields(c);
        }
        fields(UpRiver.class);
    }

    private static void fields(Class<?> c) {
        int own = 0;
        for (Field f : c.getDeclaredFields()) {
            boolean fixed = Modifier.isStatic(f.getModifiers());
            own += fixed ? 0 : 1;
            broken(5, fixed && !Modifier.isFinal(f.getModifiers()), "static and not final: " + f);
            broken(5, fixed && f.getType() != int.class && f.getType() != int[].class, "static: " + f);
        }
        broken(11, own > 20, "fields: " + c);
        for (Method m : c.getDeclaredMethods()) {
            broken(11, m.getParameterCount() > 7, "parameters: " + m);
        }
    }

    /** All that a call needs is made with the object: the room of a run holds any number of calls. */
    private static void calls() {
        com.sun.management.ThreadMXBean threads =
                (com.sun.management.ThreadMXBean) java.lang.management.ManagementFactory.getThreadMXBean();
        UpRiver x = new UpRiver();
        everything(x);
        long before = threads.getCurrentThreadAllocatedBytes();
        for (int i = 0; i < 5; i++) {
            everything(x);
        }
        long bytes = threads.getCurrentThreadAllocatedBytes() - before;
        broken(12, bytes > 4096, "calls made " + bytes + " bytes");
        before = threads.getCurrentThreadAllocatedBytes();
        new UpRiver();
        bytes = threads.getCurrentThreadAllocatedBytes() - before;
        broken(12, bytes > 40_000, "an object is of " + bytes + " bytes");
    }

    private static int everything(UpRiver x) {
        int sum = x.feed(0x6c656520303b2020L) + x.end(6) + x.text() + x.fault() + x.rule(0) + x.reach(0, 4) + x.flow(0, 4, 0);
        sum += x.afloat(0, 0, 0, 1) + x.sail(3) + x.turn() + x.anchor(2) + x.now(4) + x.soonest() + x.only(0, 4) + x.first();
        sum += x.from(3) + x.start(1) + x.days(14, 50, 0) + x.skipper(0, 1, 0) + x.best(1, 0) + x.loses(0, 0) + x.narrow(-1);
        sum += x.lead(6, 1, 1, 1, 0) + x.near(1, 1, 1, 1, 3) + x.logged(0, 1) + x.logged(4, 20) + x.lost(0) + x.swing(1) + x.swing(2);
        sum += x.judged(1) + x.judge(0) + x.barge(4, 3, 0, 0, 0) + x.keep(0) + x.back(0) + x.sheet(0, 1, 9) + x.lay(0, 1, 4);
        return sum + x.read(0, 1, 0, 1) + x.torn() + x.count(2) + x.set(3, 3, 0, 3);
    }
}
