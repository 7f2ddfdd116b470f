import java.io.ByteArrayOutputStream;
import java.io.OutputStream;
import java.io.PrintStream;
import java.net.URI;
import java.nio.file.Files;
import java.nio.file.Path;
import java.util.ArrayList;
import java.util.HashMap;
import java.util.List;
import java.util.Map;
import java.util.concurrent.ExecutionException;
import java.util.concurrent.ExecutorService;
import java.util.concurrent.Executors;
import java.util.concurrent.Future;
import java.util.concurrent.FutureTask;
import java.util.concurrent.TimeUnit;
import java.util.concurrent.TimeoutException;
import java.util.regex.Matcher;
import java.util.regex.Pattern;
import javax.tools.FileObject;
import javax.tools.ForwardingJavaFileManager;
import javax.tools.JavaCompiler;
import javax.tools.JavaFileManager;
import javax.tools.JavaFileObject;
import javax.tools.SimpleJavaFileObject;
import javax.tools.ToolProvider;

/**
 * Spoils the class in one place at a time, and tells where BoundaryTest does not see it. Its argument is the directory
 * of the compiled tests. What it tells is to be looked at: some spoilt places change no answer.
 */
public final class Mutants {
    private static final Path SOURCE = Path.of("src/main/java/MistletoeCourt.java");
    private static final int SECONDS = 20;
    /** What is found, and what stands there instead; each is a mutant of its own. */
    private static final String[][] CHANGES = {
        {" < ", " <= "}, {" <= ", " < "}, {" > ", " >= "}, {" >= ", " > "}, {" == ", " != "}, {" != ", " == "},
        {" && ", " || "}, {" \\|\\| ", " && "}, {" \\+ ", " - "}, {" - ", " + "}, {" \\* ", " / "}, {" / ", " * "},
        {" % ", " / "}, {"\\+\\+", "--"}, {" \\| ", " & "}, {" & ", " | "}, {" & ~", " & "}, {" \\+= ", " -= "},
        {" \\|= ", " &= "}, {" &= ~", " |= "}, {" -= ", " += "}, {"Math\\.min", "Math.max"}, {"Math\\.max", "Math.min"},
        {"return OUTSIDE", "return UNKNOWN"}, {"return UNKNOWN", "return OUTSIDE"}, {"return STATE", "return FULL"},
        {"return FULL", "return STATE"}, {"\\bNONE\\b", "0"}, {"\\btrue\\b", "false"}, {"\\bfalse\\b", "true"},
        {"if \\((.*)\\) \\{$", "if (true) {"}, {"if \\((.*)\\) \\{$", "if (false) {"}, {"if \\(!", "if ("},
        {"return (.*);$", "return 0;"}, {"return (.*);$", "return true;"}, {"return (.*);$", "return false;"},
        {"^( {12,})(\\w[\\w.]*\\(.*\\);)$", "$1;"}, {"^( {8,})(\\w[\\w.]*\\(.*\\);)$", "$1;"},
        {"^( {8,})(\\w+ [-+|&]?= .*;)$", "$1;"}, {"^( {8,})(\\w+\\+\\+;)$", "$1;"},
    };

    private record Mutant(int line, String was, String then, String text) { }

    public static void main(String[] args) throws Exception {
        Path tests = Path.of(args[0]);
        List<Mutant> mutants = mutants(Files.readString(SOURCE).split("\n", -1));
        PrintStream out = System.out;
        System.setOut(new PrintStream(OutputStream.nullOutputStream()));
        ExecutorService workers = Executors.newFixedThreadPool(Runtime.getRuntime().availableProcessors());
        List<Future<Boolean>> seen = new ArrayList<>();
        for (Mutant mutant : mutants) {
            seen.add(workers.submit(() -> isSeen(mutant, tests)));
        }
        int unseen = 0;
        for (int number = 0; number < mutants.size(); number++) {
            if (!seen.get(number).get()) {
                Mutant mutant = mutants.get(number);
                unseen++;
                out.println(mutant.line + ": " + mutant.was.trim() + "  ->  " + mutant.then.trim());
            }
        }
        out.println(mutants.size() + " mutants, " + unseen + " not seen");
        // Some mutants never end.
        System.exit(0);
    }

    private static List<Mutant> mutants(String[] lines) {
        List<Mutant> mutants = new ArrayList<>();
        for (int line = 0; line < lines.length; line++) {
            String was = lines[line];
            if (was.trim().startsWith("//") || was.trim().startsWith("/*") || was.trim().startsWith("*")) {
                continue;
            }
            List<String> changed = new ArrayList<>();
            for (String[] change : CHANGES) {
                Matcher matcher = Pattern.compile(change[0]).matcher(was);
                while (matcher.find()) {
                    StringBuilder then = new StringBuilder(was.substring(0, matcher.start()));
                    then.append(Pattern.compile(change[0]).matcher(matcher.group()).replaceFirst(change[1]));
                    changed.add(then.append(was.substring(matcher.end())).toString());
                }
            }
            changed.addAll(withOtherNumbers(was));
            for (String then : changed) {
                if (!then.equals(was)) {
                    lines[line] = then;
                    mutants.add(new Mutant(line + 1, was, then, String.join("\n", lines)));
                    lines[line] = was;
                }
            }
        }
        return mutants;
    }

    private static List<String> withOtherNumbers(String was) {
        List<String> changed = new ArrayList<>();
        Matcher matcher = Pattern.compile("(?<![\\w.])\\d+(?![\\w.])").matcher(was);
        while (matcher.find()) {
            for (int more = -1; more <= 1; more += 2) {
                long number = Long.parseLong(matcher.group()) + more;
                changed.add(was.substring(0, matcher.start()) + number + was.substring(matcher.end()));
            }
        }
        return changed;
    }

    /** One that can't be compiled, or does not end, is seen, too. */
    private static boolean isSeen(Mutant mutant, Path tests) throws Exception {
        Map<String, byte[]> classes = compiled(mutant.text, tests);
        if (classes == null) {
            return true;
        }
        FutureTask<Boolean> task = new FutureTask<>(() -> {
            Class<?> test = Class.forName("BoundaryTest", true, new Spoilt(classes, tests));
            var failed = test.getDeclaredMethod("failed");
            failed.setAccessible(true);
            return !((List<?>) failed.invoke(null)).isEmpty();
        });
        Thread thread = new Thread(null, task, "mutant", 16 << 20);
        thread.setDaemon(true);
        thread.start();
        try {
            return task.get(SECONDS, TimeUnit.SECONDS);
        } catch (TimeoutException | ExecutionException ended) {
            return true;
        }
    }

    /** Null if the text is no Java. */
    private static Map<String, byte[]> compiled(String text, Path tests) throws Exception {
        JavaCompiler compiler = ToolProvider.getSystemJavaCompiler();
        Map<String, ByteArrayOutputStream> written = new HashMap<>();
        JavaFileObject source = new SimpleJavaFileObject(URI.create("string:///MistletoeCourt.java"), JavaFileObject.Kind.SOURCE) {
            @Override
            public CharSequence getCharContent(boolean ignore) {
                return text;
            }
        };
        try (JavaFileManager files = new ForwardingJavaFileManager<JavaFileManager>(compiler.getStandardFileManager(d -> { }, null, null)) {
            @Override
            public JavaFileObject getJavaFileForOutput(Location place, String name, JavaFileObject.Kind kind, FileObject other) {
                return new SimpleJavaFileObject(URI.create("mem:///" + name + ".class"), kind) {
                    @Override
                    public OutputStream openOutputStream() {
                        ByteArrayOutputStream bytes = new ByteArrayOutputStream();
                        written.put(name, bytes);
                        return bytes;
                    }
                };
            }
        }) {
            if (!compiler.getTask(null, files, d -> { }, null, null, List.of(source)).call()) {
                return null;
            }
        }
        Map<String, byte[]> classes = new HashMap<>();
        written.forEach((name, bytes) -> classes.put(name, bytes.toByteArray()));
        return classes;
    }

    /** The tests beside a spoilt class. */
    private static final class Spoilt extends ClassLoader {
        private final Map<String, byte[]> classes;
        private final Path tests;

        Spoilt(Map<String, byte[]> classes, Path tests) {
            super(ClassLoader.getPlatformClassLoader());
            this.classes = classes;
            this.tests = tests;
        }

        @Override
        protected Class<?> findClass(String name) throws ClassNotFoundException {
            try {
                byte[] bytes = classes.containsKey(name) ? classes.get(name) : Files.readAllBytes(tests.resolve(name + ".class"));
                return defineClass(name, bytes, 0, bytes.length);
            } catch (java.io.IOException gone) {
                throw new ClassNotFoundException(name, gone);
            }
        }
    }
}
