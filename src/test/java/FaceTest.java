import java.lang.reflect.Constructor;
import java.lang.reflect.Field;
import java.lang.reflect.Method;
import java.lang.reflect.Modifier;
import java.nio.file.Files;
import java.nio.file.Path;
import java.util.ArrayList;
import java.util.List;
import java.util.Set;
import java.util.TreeSet;

/** The public face, and what LANGUAGE.md says of the source that a look at its text can tell. */
public final class FaceTest {
    private static final Check CHECK = new Check("FaceTest");
    private static final Path SOURCE = Path.of("src/main/java/MistletoeCourt.java");

    private static final Set<String> METHODS = Set.of(
        "int letter(int)", "int blank()", "int fault()", "int shire()", "int tree(int, int)", "int suit(int, int)",
        "int as(int, int)", "int right(int, int)", "int year()", "int birds(int, int)", "int plead(int, int, int)",
        "int walk(int)", "int plan(int)", "int game(int, int)", "int odds(int, int, int, int)",
        "int see(int, int, boolean)", "int forget()", "int centuries(int, int, int)", "int image()", "int restore()",
        "int count(int)", "long digest()");

    public static void main(String[] args) throws Exception {
        constants();
        members();
        nestedClasses();
        methods();
        source();
        CHECK.end();
    }

    private static void constants() throws Exception {
        String[] names = {"NONE", "UNKNOWN", "OUTSIDE", "STATE", "FULL"};
        int[] due = {-1, -101, -102, -103, -104};
        for (int number = 0; number < names.length; number++) {
            Field field = MistletoeCourt.class.getDeclaredField(names[number]);
            CHECK.isTrue(names[number] + " is public, static, final",
                field.getModifiers() == (Modifier.PUBLIC | Modifier.STATIC | Modifier.FINAL));
            CHECK.due(names[number], field.getInt(null), due[number]);
        }
    }

    private static void members() {
        Set<String> open = new TreeSet<>();
        Set<String> names = new TreeSet<>();
        METHODS.forEach(method -> names.add(method.replaceAll(".* |\\(.*", "")));
        for (Method method : MistletoeCourt.class.getDeclaredMethods()) {
            if (Modifier.isPrivate(method.getModifiers())) {
                CHECK.isTrue("no private method is named " + method.getName(), !names.contains(method.getName()));
            } else {
                open.add(told(method));
            }
        }
        CHECK.isTrue("the methods are those of the document: " + open, open.equals(new TreeSet<>(METHODS)));
        for (Field field : MistletoeCourt.class.getDeclaredFields()) {
            int modifiers = field.getModifiers();
            boolean isConstant = Set.of("NONE", "UNKNOWN", "OUTSIDE", "STATE", "FULL").contains(field.getName());
            CHECK.isTrue(field.getName() + " is private or of the document", Modifier.isPrivate(modifiers) != isConstant);
            CHECK.isTrue(field.getName() + " is final if static", !Modifier.isStatic(modifiers) || Modifier.isFinal(modifiers));
        }
        Constructor<?>[] constructors = MistletoeCourt.class.getDeclaredConstructors();
        CHECK.due("constructors", constructors.length, 1);
        CHECK.isTrue("the constructor is public", Modifier.isPublic(constructors[0].getModifiers()));
        CHECK.due("its parameters", constructors[0].getParameterCount(), 0);
        int modifiers = MistletoeCourt.class.getModifiers();
        CHECK.isTrue("the class is public and final", Modifier.isPublic(modifiers) && Modifier.isFinal(modifiers));
    }

    private static String told(Method method) {
        StringBuilder text = new StringBuilder(method.getReturnType().getName()).append(' ').append(method.getName());
        String between = "(";
        for (Class<?> parameter : method.getParameterTypes()) {
            text.append(between).append(parameter.getName());
            between = ", ";
        }
        return text.append(method.getParameterCount() == 0 ? "()" : ")").toString();
    }

    private static void nestedClasses() {
        Class<?>[] nested = MistletoeCourt.class.getDeclaredClasses();
        CHECK.isTrue("some twelve classes at most", nested.length < 12);
        for (Class<?> one : nested) {
            CHECK.isTrue(one.getName() + " is static", Modifier.isStatic(one.getModifiers()));
            CHECK.isTrue(one.getName() + " is private", Modifier.isPrivate(one.getModifiers()));
            int fields = 0;
            for (Field field : one.getDeclaredFields()) {
                fields += Modifier.isStatic(field.getModifiers()) ? 0 : 1;
            }
            CHECK.isTrue(one.getName() + " has some twenty fields at most", fields <= 20);
        }
    }

    private static void methods() throws Exception {
        List<Class<?>> classes = new ArrayList<>(List.of(MistletoeCourt.class.getDeclaredClasses()));
        classes.add(MistletoeCourt.class);
        for (Class<?> one : classes) {
            for (Method method : one.getDeclaredMethods()) {
                String name = one.getName() + "." + method.getName();
                CHECK.isTrue(name + " has seven parameters at most", method.getParameterCount() <= 7);
                CHECK.isTrue(name + " is not private by the name of a public one", !Modifier.isPrivate(method.getModifiers())
                    || METHODS.stream().noneMatch(face -> face.contains(" " + method.getName() + "(")));
            }
        }
        int first = 0;
        List<String> lines = Files.readAllLines(SOURCE);
        for (int line = 0; line < lines.size(); line++) {
            // A method's head ends with "{" at the depth of a class's members, its end is the next "}" there.
            if (lines.get(line).matches("(    |        )(?!if |for |while |switch )\\w.*\\) \\{")) {
                first = line;
            } else if (lines.get(line).matches("(    |        )\\}")) {
                CHECK.isTrue("the method at line " + (first + 1) + " is short", line - first < 60);
            }
        }
    }

    private static void source() throws Exception {
        String text = Files.readString(SOURCE);
        String[] ruledOut = {"import ", "package ", "throw", "try {", "catch", "->", "::", "synchronized", "assert",
            "while (true)", "System.", "Thread", "Exact", "toString", "hashCode", "equals"};
        for (String word : ruledOut) {
            CHECK.isTrue("the source has no " + word, !text.contains(word));
        }
        CHECK.isTrue("signs are 1 to 127", text.chars().allMatch(sign -> sign > 0 && sign < 128));
    }
}
