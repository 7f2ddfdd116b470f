import java.lang.reflect.Method;
import java.lang.reflect.Modifier;
import java.nio.file.Files;
import java.nio.file.Path;
import java.util.List;
import java.util.regex.Matcher;
import java.util.regex.Pattern;
import java.util.stream.Collectors;
import java.util.stream.Stream;

/** README.md tells what is so: its example is carried out, and its calls and tests are those that there are. */
public final class ReadmeTest {
    private static final Check CHECK = new Check("ReadmeTest");
    private static final Pattern TEXT = Pattern.compile("\"([^\"]+)\"\\.toCharArray\\(\\)");
    private static final Pattern CALL = Pattern.compile("court\\.(\\w+)\\(([^)]*)\\); +// (-?\\d+)\\b.*");

    public static void main(String[] args) throws Exception {
        String readme = Files.readString(Path.of("README.md"));
        example(readme);
        calls(readme);
        constants(readme);
        tests(readme);
        CHECK.end();
    }

    private static void example(String readme) throws Exception {
        Matcher text = TEXT.matcher(readme);
        CHECK.isTrue("the example has a shire", text.find());
        MistletoeCourt court = new MistletoeCourt();
        Check.type(court, text.group(1));
        Matcher call = CALL.matcher(readme);
        int calls = 0;
        while (call.find()) {
            calls++;
            CHECK.due(call.group(), answer(court, call.group(1), call.group(2)), Long.parseLong(call.group(3)));
        }
        CHECK.isTrue("the example has calls, and tells the answer of each", calls > 0 && calls == told(readme, "\ncourt."));
    }

    private static int told(String readme, String start) {
        return readme.split(Pattern.quote(start), -1).length - 1;
    }

    private static long answer(MistletoeCourt court, String name, String arguments) throws Exception {
        List<Object> values = Stream.of(arguments.split(", *")).filter(one -> !one.isEmpty())
            .map(one -> one.equals("true") || one.equals("false") ? (Object) Boolean.valueOf(one) : Integer.valueOf(one))
            .collect(Collectors.toList());
        for (Method method : MistletoeCourt.class.getMethods()) {
            if (method.getName().equals(name) && method.getParameterCount() == values.size()) {
                return ((Number) method.invoke(court, values.toArray())).longValue();
            }
        }
        throw new IllegalArgumentException("no call " + name + "(" + arguments + ")");
    }

    private static void calls(String readme) {
        for (Method method : MistletoeCourt.class.getDeclaredMethods()) {
            if (Modifier.isPublic(method.getModifiers())) {
                String call = "[`(,]" + method.getName() + "\\(" + "\\w+, ".repeat(Math.max(0, method.getParameterCount() - 1))
                    + (method.getParameterCount() > 0 ? "\\w+" : "") + "\\)`";
                CHECK.isTrue("the page tells of " + call, Pattern.compile(call).matcher(readme).find());
            }
        }
    }

    private static void constants(String readme) {
        CHECK.isTrue("UNKNOWN", readme.contains("`UNKNOWN` (" + MistletoeCourt.UNKNOWN + ")"));
        CHECK.isTrue("OUTSIDE", readme.contains("`OUTSIDE` (" + MistletoeCourt.OUTSIDE + ")"));
        CHECK.isTrue("STATE", readme.contains("`STATE` (" + MistletoeCourt.STATE + ")"));
        CHECK.isTrue("FULL", readme.contains("`FULL` (" + MistletoeCourt.FULL + ")"));
    }

    private static void tests(String readme) throws Exception {
        try (Stream<Path> files = Files.list(Path.of("src/test/java"))) {
            for (Path file : files.sorted().collect(Collectors.toList())) {
                String name = file.getFileName().toString().replace(".java", "");
                boolean isListed = readme.contains("| `" + name + "` |");
                boolean isToBeListed = name.endsWith("Test") || name.endsWith("Boundaries");
                CHECK.isTrue(name + " is listed on the page as a test, or is none", isListed == isToBeListed);
            }
        }
    }
}
