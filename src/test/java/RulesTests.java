import java.io.DataInputStream;
import java.io.IOException;
import java.io.InputStream;
import java.lang.reflect.Constructor;
import java.lang.reflect.Field;
import java.lang.reflect.Method;
import java.lang.reflect.Modifier;
import java.util.ArrayList;
import java.util.HashSet;
import java.util.List;
import java.util.Set;
import java.util.TreeSet;
import java.util.regex.Matcher;
import java.util.regex.Pattern;

/** Tests of the public face, and of those rules of LANGUAGE.md that can be seen from the class and from its text. */
final class RulesTests {
    private static final int MOST_LINES = 60, MOST_PARAMETERS = 7, MOST_FIELDS = 20, MOST_CLASSES = 12;
    private static final Pattern LIBRARY = Pattern.compile("SewnFields.*|java/lang/Object\\.<init>|java/util/Arrays\\.fill"
            + "|java/lang/System\\.arraycopy|java/lang/Math\\.(min|max)|java/lang/String\\.(length|charAt)");

    private RulesTests() {
    }

    static void all(String source, String document) {
        Check.run("the face", () -> face(document));
        Check.run("the library", RulesTests::library);
        Check.run("the classes inside", RulesTests::inside);
        Check.run("the text of the program", () -> text(source));
    }

    private static String signature(Method method) {
        StringBuilder s = new StringBuilder(method.getName()).append('(');
        for (Class<?> type : method.getParameterTypes()) {
            s.append(s.charAt(s.length() - 1) == '(' ? "" : ",").append(type.getName());
        }
        return s.append(')').toString();
    }

    /** Compares the class with the public face in the document, and with the signatures of its promises. */
    private static void face(String document) {
        TreeSet<String> methods = new TreeSet<>();
        for (Method method : SewnFields.class.getDeclaredMethods()) {
            if (!Modifier.isPrivate(method.getModifiers())) {
                methods.add(Modifier.toString(method.getModifiers()) + " " + method.getReturnType() + " " + signature(method));
            }
        }
        TreeSet<String> constants = new TreeSet<>();
        for (Field field : SewnFields.class.getDeclaredFields()) {
            if (!Modifier.isPrivate(field.getModifiers())) {
                constants.add(Modifier.toString(field.getModifiers()) + " " + field.getType() + " " + field.getName());
            }
        }
        TreeSet<String> dueMethods = new TreeSet<>();
        TreeSet<String> duePromises = new TreeSet<>();
        TreeSet<String> dueConstants = new TreeSet<>();
        for (String line : Sentences.lines(document)) {
            String told = line.strip().replaceAll("(?<=int) \\w+(?=[,)])|(?<=,) ", "");
            if (told.matches("public int .*;")) {
                dueMethods.add(told.replace(";", ""));
            } else if (told.matches("`int .*`")) {
                duePromises.add("public " + told.replace("`", ""));
            } else if (told.startsWith("public static final int ")) {
                Matcher name = Pattern.compile("\\w+(?= =)").matcher(told);
                name.results().forEach(found -> dueConstants.add("public static final int " + found.group()));
            }
        }
        Check.due("methods in the document", dueMethods.size(), 21);
        Check.same("the methods", methods.toString(), dueMethods.toString());
        Check.same("the promises", methods.toString(), duePromises.toString());
        Check.same("the constants", constants.toString(), dueConstants.toString());
        Constructor<?>[] constructors = SewnFields.class.getDeclaredConstructors();
        Check.due("constructors", constructors.length, 1);
        Check.due("the constructor is public", constructors[0].getModifiers(), Modifier.PUBLIC);
        Check.due("the class is public and final", SewnFields.class.getModifiers(), Modifier.PUBLIC | Modifier.FINAL);
    }

    private static List<Class<?>> classes() {
        List<Class<?>> classes = new ArrayList<>(List.of(SewnFields.class));
        classes.addAll(List.of(SewnFields.class.getDeclaredClasses()));
        return classes;
    }

    /** Every method that the program calls, and every field that it uses, is its own or one of those that it may use. */
    private static void library() {
        for (Class<?> c : classes()) {
            String file = c.getName() + ".class";
            try (InputStream in = SewnFields.class.getResourceAsStream(file)) {
                for (String used : usedBy(new DataInputStream(in))) {
                    if (!LIBRARY.matcher(used).matches()) {
                        Check.tell(c + " uses " + used);
                    }
                }
            } catch (IOException e) {
                Check.tell(file + " cannot be read: " + e);
            }
        }
    }

    /** Reads the members that a class refers to from its constants, whose form is told in the JVM's specification. */
    private static List<String> usedBy(DataInputStream in) throws IOException {
        in.skipNBytes(8);
        int size = in.readUnsignedShort();
        String[] texts = new String[size];
        int[] firsts = new int[size];
        int[] seconds = new int[size];
        List<Integer> members = new ArrayList<>();
        for (int i = 1; i < size; i++) {
            int kind = in.readUnsignedByte();
            switch (kind) {
                case 1 -> texts[i] = in.readUTF();
                case 3, 4 -> in.readInt();
                case 5, 6 -> {
                    in.readLong();
                    i++;
                }
                case 7, 8 -> firsts[i] = in.readUnsignedShort();
                case 9, 10, 11, 12 -> {
                    firsts[i] = in.readUnsignedShort();
                    seconds[i] = in.readUnsignedShort();
                    if (kind != 12) {
                        members.add(i);
                    }
                }
                default -> throw new IOException("a constant of the kind " + kind + ", which no plain call needs");
            }
        }
        List<String> used = new ArrayList<>();
        for (int member : members) {
            used.add(texts[firsts[firsts[member]]] + "." + texts[firsts[seconds[member]]]);
        }
        return used;
    }

    private static void inside() {
        Set<String> face = new HashSet<>();
        for (Method method : SewnFields.class.getDeclaredMethods()) {
            if (Modifier.isPublic(method.getModifiers())) {
                face.add(method.getName());
            }
        }
        Check.due("at most twelve classes", classes().size() <= MOST_CLASSES ? 1 : 0, 1);
        for (Class<?> c : classes()) {
            int modifiers = c.getModifiers();
            if (c != SewnFields.class && (!Modifier.isStatic(modifiers) || Modifier.isPublic(modifiers)
                    || Modifier.isProtected(modifiers))) {
                Check.tell(c + " is not static, or public or protected");
            }
            for (Method method : c.getDeclaredMethods()) {
                if (face.contains(method.getName()) && (c != SewnFields.class || Modifier.isPrivate(method.getModifiers()))) {
                    Check.tell(method + " bears a name of the face");
                }
                if (method.getParameterCount() > MOST_PARAMETERS) {
                    Check.tell(method + " takes too many parameters");
                }
            }
            fields(c);
        }
    }

    private static void fields(Class<?> c) {
        int ofObjects = 0;
        for (Field field : c.getDeclaredFields()) {
            if (!Modifier.isStatic(field.getModifiers())) {
                ofObjects++;
            } else if (field.getType() != int.class || !Modifier.isFinal(field.getModifiers())) {
                Check.tell(field + " is no constant of int");
            }
        }
        Check.due(c + " has at most twenty fields", ofObjects <= MOST_FIELDS ? 1 : 0, 1);
    }

    private static void text(String source) {
        List<String> lines = Sentences.lines(source);
        Check.due("lines of the program", lines.isEmpty() ? 0 : 1, 1);
        Pattern ruledOut = Pattern.compile("\\b(throw|throws|try|catch|finally|synchronized|assert|volatile|native|"
                + "lambda|record|hashCode|toString|System\\.(?!arraycopy)\\w+)\\b|->|::");
        Pattern imports = Pattern.compile("import (?!java\\.util\\.(Arrays|ArrayList|List|Iterator);)");
        int methodStart = -1;
        for (int i = 0; i < lines.size(); i++) {
            String line = lines.get(i);
            if (!line.chars().allMatch(c -> c >= 32 && c <= 126)) {
                Check.tell("line " + (i + 1) + " has a sign beside 32 to 126");
            }
            if (line.strip().startsWith("*") || line.strip().startsWith("/*") || line.strip().startsWith("//")) {
                continue;
            }
            Matcher found = ruledOut.matcher(line);
            if (found.find() || imports.matcher(line).find()) {
                Check.tell("line " + (i + 1) + " is ruled out: " + line);
            }
            if (line.contains("new ") && !line.contains(" private final ")) {
                Check.tell("line " + (i + 1) + " makes something during a call: " + line);
            }
            if (line.matches(" {4,8}(\\w+ )*[\\w\\[\\]]+\\(.*\\{")) {
                methodStart = i;
            }
            if (line.matches(" {4,8}\\}") && methodStart >= 0) {
                Check.due("the method at line " + (methodStart + 1) + " is short", i - methodStart < MOST_LINES ? 1 : 0, 1);
                methodStart = -1;
            }
        }
    }
}
