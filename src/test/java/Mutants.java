import java.io.IOException;
import java.net.URL;
import java.net.URLClassLoader;
import java.nio.file.Files;
import java.nio.file.Path;
import java.util.ArrayList;
import java.util.Collection;
import java.util.Comparator;
import java.util.List;
import java.util.Map;
import java.util.Set;
import java.util.TreeMap;
import java.util.TreeSet;
import java.util.concurrent.ConcurrentHashMap;
import java.util.stream.Stream;
import javax.tools.JavaCompiler;
import javax.tools.ToolProvider;

/**
 * Asks of each sentence that the tests of the edges look at: is it the document's, and does its test fail if the
 * sentence is broken? For that the class is broken, in one place at a time, as src/test/mutants.txt says.
 * By hand, from the project's folder: javac -d out src/test/java/Mutants.java && java -cp out Mutants.
 */
public final class Mutants {
    private static final String[] TESTS = {"TextEdgesTest", "RiverEdgesTest", "BoatEdgesTest", "WayEdgesTest", "LogEdgesTest",
        "SheetEdgesTest", "RefusedEdgesTest"};

    private record Mutant(String key, String after, String from, String to) { }

    private static int wrong;

    public static void main(String[] args) throws Exception {
        Path work = Files.createTempDirectory("mutants");
        String source = Files.readString(Path.of("src/main/java/UpRiver.java"));
        Path tests = compileTests(work);
        Path whole = compile(work.resolve("whole"), source);
        Map<String, String> sentences = sentencesOf(tests, whole);
        told("a test fails", broken(tests, whole));
        quotes(sentences);
        List<Mutant> mutants = mutantsOf(Files.readAllLines(Path.of("src/test/mutants.txt")));
        Set<String> without = new TreeSet<>(sentences.keySet());
        Set<String> survived = ConcurrentHashMap.newKeySet();
        Stream.iterate(0, i -> i + 1).limit(mutants.size()).parallel().forEach(i -> {
            Mutant m = mutants.get(i);
            String verdict = verdictOn(m, source, tests, work.resolve("m" + i));
            if (!verdict.isEmpty()) {
                survived.add(m.key() + ": " + m.from() + " -> " + m.to() + " " + verdict);
            }
        });
        for (Mutant m : mutants) {
            without.remove(m.key());
        }
        told("without a mutant", without);
        told("not as it should be", survived);
        System.out.println(sentences.size() + " sentences, " + mutants.size() + " mutants, " + wrong + " wrong");
        remove(work);
        System.exit(wrong == 0 ? 0 : 1);
    }

    private static void told(String what, Collection<String> all) {
        for (String one : all) {
            wrong++;
            System.out.println(what + ": " + one);
        }
    }

    private static void quotes(Map<String, String> sentences) throws IOException {
        String doc = Files.readString(Path.of("../shared/DOC.md")).replaceAll("\\s+", " ");
        for (Map.Entry<String, String> e : sentences.entrySet()) {
            if (!doc.contains(e.getValue())) {
                told("not in the document", List.of(e.getKey() + ": " + e.getValue()));
            }
        }
    }

    /** Blocks of four lines (key, a text that stands before the place, what stands there, what is put there) and a blank one. */
    private static List<Mutant> mutantsOf(List<String> lines) {
        List<Mutant> all = new ArrayList<>();
        for (int i = 0; i + 3 < lines.size(); i += 5) {
            all.add(new Mutant(lines.get(i), lines.get(i + 1), lines.get(i + 2), lines.get(i + 3)));
        }
        return all;
    }

    private static String verdictOn(Mutant m, String source, Path tests, Path folder) {
        int after = source.indexOf(m.after());
        int at = after < 0 ? -1 : source.indexOf(m.from(), after);
        if (at < 0) {
            return "(there is no such place)";
        }
        Path classes = compile(folder, source.substring(0, at) + m.to() + source.substring(at + m.from().length()));
        if (classes == null) {
            return "(does not compile)";
        }
        Set<String> broken = broken(tests, classes);
        return broken.contains(m.key()) ? "" : "(its test holds; broken are " + broken + ")";
    }

    // ---- classes

    private static Path compileTests(Path work) throws IOException {
        Path folder = Files.createDirectories(work.resolve("tests"));
        List<String> files = new ArrayList<>(List.of("-d", folder.toString(), "src/main/java/UpRiver.java", "src/test/java/Checks.java"));
        for (String test : TESTS) {
            files.add("src/test/java/" + test + ".java");
        }
        run(files);
        try (Stream<Path> all = Files.list(folder)) {
            for (Path p : all.filter(f -> f.getFileName().toString().startsWith("UpRiver")).toList()) {
                Files.delete(p);
            }
        }
        return folder;
    }

    private static int run(List<String> files) {
        JavaCompiler compiler = ToolProvider.getSystemJavaCompiler();
        return compiler.run(null, null, null, files.toArray(new String[0]));
    }

    private static Path compile(Path folder, String source) {
        try {
            Files.createDirectories(folder);
            Path file = Files.writeString(folder.resolve("UpRiver.java"), source);
            return run(List.of("-d", folder.toString(), file.toString())) == 0 ? folder : null;
        } catch (IOException e) {
            throw new IllegalStateException(e);
        }
    }

    private static URLClassLoader loader(Path tests, Path classes) throws IOException {
        URL[] where = {tests.toUri().toURL(), classes.toUri().toURL()};
        return new URLClassLoader(where, ClassLoader.getPlatformClassLoader());
    }

    @SuppressWarnings("unchecked")
    private static Map<String, String> sentencesOf(Path tests, Path classes) throws Exception {
        try (URLClassLoader loader = loader(tests, classes)) {
            for (String test : TESTS) {
                call(loader, test);
            }
            return new TreeMap<>((Map<String, String>) field(loader, "SENTENCES"));
        }
    }

    private static void call(ClassLoader loader, String test) throws Exception {
        var all = loader.loadClass(test).getDeclaredMethod("all");
        all.setAccessible(true);
        all.invoke(null);
    }

    private static Object field(ClassLoader loader, String name) throws Exception {
        var f = loader.loadClass("Checks").getDeclaredField(name);
        f.setAccessible(true);
        return f.get(null);
    }

    /** The keys of the sentences whose tests fail; a test that the machine stops has failed, too. */
    @SuppressWarnings("unchecked")
    private static Set<String> broken(Path tests, Path classes) {
        try (URLClassLoader loader = loader(tests, classes)) {
            Set<String> stopped = new TreeSet<>();
            Object quiet = field(loader, "QUIET");
            ((boolean[]) quiet)[0] = true;
            for (String test : TESTS) {
                try {
                    call(loader, test);
                } catch (java.lang.reflect.InvocationTargetException e) {
                    stopped.add(((String[]) field(loader, "KEY"))[0]);
                }
            }
            stopped.addAll((Set<String>) field(loader, "BROKEN"));
            return stopped;
        } catch (Exception e) {
            throw new IllegalStateException(e);
        }
    }

    private static void remove(Path folder) throws IOException {
        try (Stream<Path> all = Files.walk(folder)) {
            for (Path p : all.sorted(Comparator.reverseOrder()).toList()) {
                Files.delete(p);
            }
        }
    }
}
