import java.lang.reflect.InvocationTargetException;
import java.lang.reflect.Method;
import java.lang.reflect.Modifier;
import java.util.ArrayList;
import java.util.HashSet;
import java.util.List;
import java.util.Set;
import java.util.regex.Matcher;
import java.util.regex.Pattern;

/** Tests of what README.md says: the answers in its example, the items of its table, and that no method is left out. */
final class ReadmeTests extends ClothTests {
    private static final Pattern TYPED = Pattern.compile("for \\(char letter : \"([^\"]*)\"\\.toCharArray\\(\\)\\) \\{");
    private static final Pattern CALL = Pattern.compile("cloth\\.(\\w+)\\(([-0-9, ]*)\\); +// (-?\\d+): .*");
    private static final Pattern ITEM = Pattern.compile("\\| `([a-z]+ [0-9 ]+;)` \\|.*");

    private ReadmeTests() {
    }

    static void all(String readme) {
        Check.run("the example in " + readme, () -> example(readme));
        Check.run("the items in " + readme, () -> items(readme));
        Check.run("the methods in " + readme, () -> methods(readme));
    }

    private static void example(String readme) {
        SewnFields x = new SewnFields();
        Set<String> called = new HashSet<>();
        for (String line : example(Sentences.lines(readme))) {
            Matcher typed = TYPED.matcher(line);
            Matcher call = CALL.matcher(line);
            if (typed.matches()) {
                types(x, typed.group(1));
            } else if (call.matches()) {
                called.add(call.group(1));
                Check.due(line, answer(x, call.group(1), call.group(2)), Integer.parseInt(call.group(3)));
            } else if (!line.matches("SewnFields cloth = new SewnFields\\(\\);|    cloth\\.type\\(letter\\);|\\}")) {
                Check.tell("this line is not tried: " + line);
            }
        }
        Check.due("the methods in the example are many", called.size() > 10 ? 1 : 0, 1);
    }

    private static List<String> example(List<String> lines) {
        int start = lines.indexOf("```java") + 1;
        int length = lines.subList(start, lines.size()).indexOf("```");
        return lines.subList(start, start + Math.max(length, 0));
    }

    private static int answer(SewnFields x, String name, String arguments) {
        List<Object> numbers = new ArrayList<>();
        for (String number : arguments.isEmpty() ? new String[0] : arguments.split(", ")) {
            numbers.add(Integer.valueOf(number));
        }
        try {
            for (Method method : SewnFields.class.getMethods()) {
                if (method.getName().equals(name) && method.getParameterCount() == numbers.size()) {
                    return (int) method.invoke(x, numbers.toArray());
                }
            }
        } catch (IllegalAccessException | InvocationTargetException e) {
            Check.tell(name + "(" + arguments + ") throws " + e.getCause());
        }
        return MIN;
    }

    private static void items(String readme) {
        Set<String> words = new HashSet<>();
        for (String line : Sentences.lines(readme)) {
            Matcher item = ITEM.matcher(line);
            if (item.matches()) {
                told("row 0000;" + item.group(1), 2);
                words.add(item.group(1).replaceAll(" .*", ""));
            }
        }
        Check.due("kinds of items", words.size(), 5);
    }

    private static void methods(String readme) {
        String text = String.join("\n", Sentences.lines(readme));
        for (Method method : SewnFields.class.getDeclaredMethods()) {
            if (Modifier.isPublic(method.getModifiers()) && !text.contains("`" + method.getName() + "`")) {
                Check.tell(method.getName() + " is left out");
            }
        }
    }
}
