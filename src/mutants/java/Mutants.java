import java.io.IOException;
import java.io.OutputStream;
import java.io.PrintStream;
import java.lang.reflect.Method;
import java.net.URI;
import java.net.URL;
import java.net.URLClassLoader;
import java.nio.file.Files;
import java.nio.file.Path;
import java.util.ArrayList;
import java.util.Collection;
import java.util.LinkedHashSet;
import java.util.List;
import java.util.Set;
import java.util.concurrent.ExecutorService;
import java.util.concurrent.Executors;
import java.util.concurrent.Future;
import javax.tools.JavaCompiler;
import javax.tools.SimpleJavaFileObject;
import javax.tools.ToolProvider;

/**
 * A test of the boundary tests: for each sentence the class is broken in at least one place, and
 * then the test of that sentence must fail. The first argument is the class's source, the second
 * the directory of the compiled tests, the third a directory to work in, the others are files with
 * the breaks.
 *
 * A file with breaks has parts of this form. The text behind "-" must stand once in the source and
 * is replaced by that behind "+"; lines and blanks at their edges are not looked at.
 *
 * <pre>
 * = the sentence
 * - a line of the source
 * - the next line
 * + what stands there instead
 * </pre>
 */
public final class Mutants {
    private static final String[] TESTS = {
        "RingBoundaryTests", "StoreBoundaryTests", "PlanBoundaryTests", "PowerBoundaryTests", "RefusedBoundaryTests"
    };

    private static final class Break {
        final List<String> sentences = new ArrayList<>();
        final List<String> from = new ArrayList<>();
        final List<String> to = new ArrayList<>();
    }

    private static final class Text extends SimpleJavaFileObject {
        private final String text;

        Text(String text) {
            super(URI.create("string:///ShardRing.java"), Kind.SOURCE);
            this.text = text;
        }

        @Override
        public CharSequence getCharContent(boolean ignoreErrors) {
            return text;
        }
    }

    private Mutants() {
    }

    public static void main(String[] args) throws Exception {
        PrintStream out = System.out;
        System.setOut(new PrintStream(OutputStream.nullOutputStream()));
        List<String> source = trimmed(Files.readAllLines(Path.of(args[0])));
        Path tests = Path.of(args[1]);
        List<Break> breaks = new ArrayList<>();
        for (int i = 3; i < args.length; i++) {
            breaks.addAll(read(Files.readAllLines(Path.of(args[i]))));
        }
        Set<String> left = new LinkedHashSet<>(run(tests, tests, "sentences"));
        List<String> faults = new ArrayList<>();
        ExecutorService workers = Executors.newFixedThreadPool(Math.max(1, Runtime.getRuntime().availableProcessors()));
        List<Future<String>> answers = new ArrayList<>();
        for (int i = 0; i < breaks.size(); i++) {
            Break each = breaks.get(i);
            Path room = Path.of(args[2], "mutant" + i);
            for (String sentence : each.sentences) {
                if (!left.remove(sentence) && !sentencesOf(breaks.subList(0, i)).contains(sentence)) {
                    faults.add("no such sentence: " + sentence);
                }
            }
            answers.add(workers.submit(() -> tried(each, source, tests, room)));
        }
        for (Future<String> answer : answers) {
            if (!answer.get().isEmpty()) {
                faults.add(answer.get());
            }
        }
        workers.shutdown();
        for (String sentence : left) {
            faults.add("no break for: " + sentence);
        }
        faults.forEach(out::println);
        out.println(breaks.size() + " breaks, " + faults.size() + " faults");
        System.exit(faults.isEmpty() && !breaks.isEmpty() ? 0 : 1);
    }

    private static Set<String> sentencesOf(List<Break> breaks) {
        Set<String> all = new LinkedHashSet<>();
        breaks.forEach(each -> all.addAll(each.sentences));
        return all;
    }

    private static List<String> trimmed(List<String> lines) {
        return lines.stream().map(String::strip).filter(line -> !line.isEmpty()).toList();
    }

    private static List<Break> read(List<String> lines) {
        List<Break> breaks = new ArrayList<>();
        String before = "";
        for (String line : trimmed(lines)) {
            String kind = line.substring(0, 1);
            String text = line.substring(1).strip();
            if (kind.equals("=") && !before.equals("=")) {
                breaks.add(new Break());
            }
            before = kind;
            if (kind.equals("#")) {
                continue;
            }
            Break last = breaks.get(breaks.size() - 1);
            (kind.equals("=") ? last.sentences : kind.equals("-") ? last.from : last.to).add(text);
        }
        return breaks;
    }

    /** What is wrong with a break: nothing if each of its sentences' tests fails. */
    private static String tried(Break each, List<String> source, Path tests, Path room) throws Exception {
        String whole = String.join("\n", source);
        String from = String.join("\n", each.from);
        int at = whole.indexOf(from);
        if (from.isEmpty() || at < 0 || whole.indexOf(from, at + 1) >= 0) {
            return "not once in the source: " + from + " (" + each.sentences + ")";
        }
        String broken = whole.substring(0, at) + String.join("\n", each.to) + whole.substring(at + from.length());
        if (!compiled(broken, room)) {
            return "can't be compiled: " + each.to + " (" + each.sentences + ")";
        }
        Collection<String> found = run(room, tests, "broken");
        for (String sentence : each.sentences) {
            if (!found.contains(sentence)) {
                return "not found by its test: " + sentence + ", " + each.to + "; found by " + found.size() + " others";
            }
        }
        return "";
    }

    private static boolean compiled(String text, Path room) throws IOException {
        Files.createDirectories(room);
        JavaCompiler compiler = ToolProvider.getSystemJavaCompiler();
        List<String> options = List.of("-d", room.toString(), "-nowarn");
        return compiler.getTask(null, null, message -> { }, options, null, List.of(new Text(text))).call();
    }

    /** Runs all tests with the class of one directory, and asks for the sentences or the broken ones. */
    private static Collection<String> run(Path classOf, Path tests, String asked) throws Exception {
        URL[] places = {classOf.toUri().toURL(), tests.toUri().toURL()};
        try (URLClassLoader loader = new URLClassLoader(places, ClassLoader.getPlatformClassLoader())) {
            for (String test : TESTS) {
                call(loader.loadClass(test), "all");
            }
            Collection<String> texts = new LinkedHashSet<>();
            for (Object text : (Collection<?>) call(loader.loadClass("Checks"), asked)) {
                texts.add((String) text);
            }
            return texts;
        }
    }

    private static Object call(Class<?> type, String name) throws Exception {
        Method method = type.getDeclaredMethod(name);
        method.setAccessible(true);
        return method.invoke(null);
    }
}
