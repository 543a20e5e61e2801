import java.io.IOException;
import java.lang.reflect.Method;
import java.nio.file.Files;
import java.nio.file.Path;
import java.util.ArrayList;
import java.util.List;
import java.util.TreeMap;
import java.util.regex.Matcher;
import java.util.regex.Pattern;

/** README.md tells how to use the class: whether its example, its bounds, its list of calls are right. */
public final class ReadmeTest {
    private static final Pattern CALL = Pattern.compile("x\\.(\\w+)\\((.*)\\); +// (-?\\d+):.*");
    private static final Pattern LINE = Pattern.compile("\\| `(\\w+) (.*);` \\|.*\\| (.*) \\| (.*) \\|");
    private static final Pattern ROW = Pattern.compile("\\| `(\\w+\\(.*\\))` \\| (\\d+) \\|.*");
    private static final Pattern PROMISE = Pattern.compile("## Promise (\\d+): (\\w+)\n\n`int (\\w+\\(.*\\))`");

    private static int asked;
    private static int wrong;

    public static void main(String[] args) throws IOException, ReflectiveOperationException {
        List<String> readme = Files.readAllLines(Path.of("README.md"));
        example(readme);
        lines(readme);
        calls(readme, Files.readString(Path.of("../shared/DOC.md")));
        System.out.println(asked + " answers, " + wrong + " wrong");
        System.exit(wrong == 0 ? 0 : 1);
    }

    private static void due(String what, Object got, Object want) {
        asked++;
        if (!got.equals(want)) {
            wrong++;
            System.out.println("README.md: " + what + " is " + got + ", due is " + want);
        }
    }

    // ---- the example

    private static void example(List<String> readme) throws ReflectiveOperationException {
        UpRiver x = new UpRiver();
        int seen = 0;
        for (String line : readme) {
            Matcher m = CALL.matcher(line);
            if (m.matches()) {
                seen++;
                due(line, Integer.parseInt(m.group(3)), answer(x, m.group(1), m.group(2)));
            }
        }
        due("an example of ten calls at least", seen >= 10, true);
    }

    private static Object answer(UpRiver x, String name, String told) throws ReflectiveOperationException {
        String[] words = told.isEmpty() ? new String[0] : told.split(", ");
        for (Method m : UpRiver.class.getMethods()) {
            if (m.getName().equals(name)) {
                Object[] numbers = new Object[words.length];
                for (int i = 0; i < words.length; i++) {
                    numbers[i] = words[i].endsWith("L") ? (Object) Long.decode(words[i].replace("L", "")) : Integer.decode(words[i]);
                }
                return m.invoke(x, numbers);
            }
        }
        return "no such call";
    }

    // ---- the table of the text's lines

    private static void lines(List<String> readme) {
        int seen = 0;
        for (String row : readme) {
            Matcher m = LINE.matcher(row);
            if (m.matches()) {
                String[] bounds = m.group(3).split(", ");
                due("how many bounds " + m.group(1) + " has", bounds.length, m.group(2).equals("N .. N") ? 1 : m.group(2).split(" ").length);
                bounds(m.group(1), bounds, m.group(2).equals("N .. N") ? 12 : bounds.length);
                due(m.group(1) + " at first", m.group(4), atFirst(m.group(1), seen));
                seen++;
            }
        }
        due("how many kinds of lines", seen, 14);
    }

    /** Each number of a line at its least, its most and beyond, while the others are at their most. */
    private static void bounds(String name, String[] bounds, int numbers) {
        for (int i = 0; i < numbers; i++) {
            int[] values = new int[numbers];
            for (int j = 0; j < numbers; j++) {
                values[j] = Integer.parseInt(bounds[j % bounds.length].replaceAll(".* to ", ""));
            }
            int most = values[i];
            String low = bounds[i % bounds.length].replaceAll(" to .*", "");
            int least = low.equals("L") ? values[1] : Integer.parseInt(low);
            for (int v = Math.max(0, least - 1); v <= most + 1; v++) {
                values[i] = v;
                due(name + " " + i + " of " + v, faultOf(name, values), v < least || v > most ? 3 : 0);
            }
        }
    }

    private static int faultOf(String name, int[] values) {
        StringBuilder b = new StringBuilder(name.equals("reaches") ? "" : "reaches 8;").append(name);
        for (int v : values) {
            b.append(' ').append(v);
        }
        UpRiver x = new UpRiver();
        Checks.tell(x, b.append(';').toString());
        return x.fault();
    }

    private static String atFirst(String name, int rule) {
        UpRiver x = new UpRiver();
        return switch (name) {
            case "bank" -> x.reach(0, 0) + ", " + x.reach(0, 1);
            case "deep" -> "" + x.reach(0, 10);
            case "eddy" -> x.count(2) == 0 ? "none" : "some";
            case "lee" -> x.count(3) == 0 ? "none" : "some";
            case "wind" -> "" + x.reach(0, 3);
            case "tide" -> "" + x.rule(10);
            case "high" -> "" + x.rule(30);
            default -> "" + x.rule(rule);
        };
    }

    // ---- the table of the calls

    private static void calls(List<String> readme, String document) {
        List<String> listed = new ArrayList<>();
        for (String line : readme) {
            Matcher m = ROW.matcher(line);
            if (m.matches()) {
                listed.add(m.group(2) + " " + m.group(1));
            }
        }
        TreeMap<Integer, String> promised = new TreeMap<>();
        Matcher m = PROMISE.matcher(document);
        while (m.find()) {
            promised.put(Integer.parseInt(m.group(1)), m.group(3).replaceAll("(int|long) ", ""));
        }
        List<String> want = new ArrayList<>();
        promised.forEach((number, call) -> want.add(number + " " + call));
        due("how many calls the document has", want.size(), 38);
        due("the list of calls", listed, want);
    }
}
