import java.io.IOException;
import java.lang.reflect.Constructor;
import java.lang.reflect.Field;
import java.lang.reflect.Method;
import java.lang.reflect.Modifier;
import java.nio.charset.StandardCharsets;
import java.nio.file.Files;
import java.nio.file.Path;
import java.util.Arrays;
import java.util.List;
import java.util.TreeSet;
import java.util.regex.Matcher;
import java.util.regex.Pattern;

/** Tests of those rules of LANGUAGE.md that can be seen from the class and from its text. */
final class RulesTests {
    private static final List<String> FACE = List.of("type(int)", "clear()", "tells()", "paints(int,int,int,int,int)",
            "ways(int,int)", "ranks(int,int)", "mosts(int)", "pulls(int)", "undo()", "cell(int,int,int)",
            "field(int,int)", "sewn(int,int,int)", "row(int,int,int,int)", "part(int,int,int,int)", "order(int)",
            "sees(int,int,int)", "forget()", "which(int)", "keep(int)", "back(int)", "count(int)");
    private static final int MOST_LINES = 60;

    private RulesTests() {
    }

    static void all(String source) {
        Check.run("the face", RulesTests::face);
        Check.run("the classes inside", RulesTests::inside);
        Check.run("the text of the program", () -> text(source));
    }

    private static String signature(Method method) {
        StringBuilder s = new StringBuilder(method.getName()).append('(');
        for (Class<?> type : method.getParameterTypes()) {
            s.append(s.charAt(s.length() - 1) == '(' ? "" : ",").append(type.getName());
        }
        return s.append(')').toString();
    }

    private static void face() {
        TreeSet<String> methods = new TreeSet<>();
        for (Method method : SewnFields.class.getDeclaredMethods()) {
            if (!Modifier.isPrivate(method.getModifiers())) {
                Check.due(method + " is public and answers an int",
                        Modifier.isPublic(method.getModifiers()) && method.getReturnType() == int.class ? 1 : 0, 1);
                methods.add(signature(method));
            }
        }
        Check.same("the methods", methods.toString(), new TreeSet<>(FACE).toString());
        TreeSet<String> constants = new TreeSet<>();
        for (Field field : SewnFields.class.getDeclaredFields()) {
            if (!Modifier.isPrivate(field.getModifiers())) {
                constants.add(Modifier.toString(field.getModifiers()) + " " + field.getName());
            }
        }
        Check.same("the constants", constants.toString(), "[public static final BAD, public static final FULL,"
                + " public static final NONE, public static final STATE]");
        Constructor<?>[] constructors = SewnFields.class.getDeclaredConstructors();
        Check.due("constructors", constructors.length, 1);
        Check.due("the class is public and final", SewnFields.class.getModifiers(), Modifier.PUBLIC | Modifier.FINAL);
    }

    private static void inside() {
        Class<?>[] classes = SewnFields.class.getDeclaredClasses();
        Check.due("at most twelve classes", classes.length + 1 <= 12 ? 1 : 0, 1);
        for (Class<?> c : classes) {
            int modifiers = c.getModifiers();
            Check.due(c + " is static, and not public or protected",
                    Modifier.isStatic(modifiers) && !Modifier.isPublic(modifiers) && !Modifier.isProtected(modifiers) ? 1 : 0, 1);
            for (Method method : c.getDeclaredMethods()) {
                Check.due(method + " bears no name of the face",
                        FACE.stream().anyMatch(f -> f.startsWith(method.getName() + "(")) ? 1 : 0, 0);
            }
        }
        for (Class<?> c : Arrays.asList(classes)) {
            fewFields(c);
        }
        fewFields(SewnFields.class);
    }

    private static void fewFields(Class<?> c) {
        long fields = Arrays.stream(c.getDeclaredFields()).filter(f -> !Modifier.isStatic(f.getModifiers())).count();
        Check.due(c + " has at most twenty fields", fields <= 20 ? 1 : 0, 1);
    }

    private static void text(String source) {
        List<String> lines;
        try {
            lines = Files.readAllLines(Path.of(source), StandardCharsets.US_ASCII);
        } catch (IOException e) {
            Check.tell("the program cannot be read as ASCII: " + e);
            return;
        }
        Pattern ruledOut = Pattern.compile("\\b(throw|throws|try|catch|finally|synchronized|assert|volatile|native|"
                + "lambda|record|hashCode|toString|System\\.(?!arraycopy)\\w+)\\b|->|::");
        Pattern imports = Pattern.compile("import (?!java\\.util\\.(Arrays|ArrayList|List|Iterator);)");
        int methodStart = -1;
        for (int i = 0; i < lines.size(); i++) {
            String line = lines.get(i);
            if (line.strip().startsWith("*") || line.strip().startsWith("/*") || line.strip().startsWith("//")) {
                continue;
            }
            Matcher found = ruledOut.matcher(line);
            if (found.find() || imports.matcher(line).find()) {
                Check.tell("line " + (i + 1) + " is ruled out: " + line);
            }
            if (line.contains("new ") && !line.contains(" private final ")) {
                Check.tell("line " + (i + 1) + " makes something during a call: " + line);
            }
            if (line.matches(" {4,8}(\\w+ )*[\\w\\[\\]]+\\(.*\\{")) {
                methodStart = i;
            }
            if (line.matches(" {4,8}\\}") && methodStart >= 0) {
                Check.due("the method at line " + (methodStart + 1) + " is short", i - methodStart < MOST_LINES ? 1 : 0, 1);
                methodStart = -1;
            }
        }
    }
}
