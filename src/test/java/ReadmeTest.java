import java.lang.reflect.Method;
import java.lang.reflect.Modifier;
import java.nio.file.Files;
import java.nio.file.Path;
import java.util.HashMap;
import java.util.Map;
import java.util.regex.Matcher;
import java.util.regex.Pattern;

/** What README.md tells is so: the answers in its example, the statements in its table, the names of all calls. */
public final class ReadmeTest {
    private static final Pattern EXAMPLE = Pattern.compile("(?s)```java\n(.*?)```");
    private static final Pattern TEXT = Pattern.compile("String text = \"([^\"]*)\";");
    private static final Pattern CALL = Pattern.compile("(?m)^moor\\.(\\w+)\\(([-0-9, ]*)\\); *// (-?\\d+): ");
    private static final Pattern STATEMENT = Pattern.compile("`([a-z][a-z0-9]+;)`");

    private static final Map<String, Method> FACE = new HashMap<>();

    private ReadmeTest() {
    }

    public static void main(String[] args) throws Exception {
        for (Method m : AloneIsAQuantity.class.getDeclaredMethods()) {
            if (Modifier.isPublic(m.getModifiers())) {
                FACE.put(m.getName(), m);
            }
        }
        String readme = Files.readString(Path.of("README.md"));
        Asked.test("the example's answers", () -> example(readme));
        Asked.test("the statements in the table", () -> statements(readme));
        Asked.test("every call has its place in a table", () -> names(readme));
        Asked.test("every test is named", () -> tests(readme));
        Asked.end("ReadmeTest");
    }

    private static void example(String readme) {
        Matcher code = EXAMPLE.matcher(readme);
        Asked.due(1, code.find() ? 1 : 0);
        Matcher text = TEXT.matcher(code.group(1));
        Asked.due(1, text.find() ? 1 : 0);
        AloneIsAQuantity x = new AloneIsAQuantity();
        Asked.letters(x, text.group(1));
        Matcher call = CALL.matcher(code.group(1));
        int calls = 0;
        while (call.find()) {
            calls++;
            Asked.same(call.group() + call.group(3), call.group() + answer(x, call.group(1), call.group(2)));
        }
        // A line that the pattern did not see would be told and not looked at.
        Asked.due((int) code.group(1).lines().filter(line -> line.startsWith("moor.")).count(), calls);
    }

    private static int answer(AloneIsAQuantity x, String name, String told) {
        String[] numbers = told.isEmpty() ? new String[0] : told.split(", *");
        Object[] arguments = new Object[numbers.length];
        for (int i = 0; i < numbers.length; i++) {
            arguments[i] = Integer.parseInt(numbers[i]);
        }
        try {
            return (Integer) FACE.get(name).invoke(x, arguments);
        } catch (ReflectiveOperationException e) {
            throw new IllegalStateException(name + " " + told, e);
        }
    }

    private static void statements(String readme) {
        Matcher statement = STATEMENT.matcher(readme);
        int found = 0;
        while (statement.find()) {
            AloneIsAQuantity x = Asked.moorOf("pp00000;pp00000;");
            Asked.same(statement.group(1) + " 1", statement.group(1) + " " + Asked.tell(x, statement.group(1)));
            found++;
        }
        Asked.due(6, Math.min(6, found));
    }

    private static void names(String readme) {
        for (String name : FACE.keySet()) {
            int rows = 0;
            for (String line : readme.split("\n")) {
                rows += line.startsWith("|") && line.contains("`" + name + "`") ? 1 : 0;
            }
            Asked.same(name + " in 1 row", name + " in " + rows + " row");
        }
    }

    private static void tests(String readme) {
        String[] files = Path.of("src/test/java").toFile().list((dir, file) -> file.endsWith("Test.java"));
        for (String file : files) {
            String name = file.substring(0, file.length() - ".java".length());
            Asked.same(name + " true", name + " " + (readme.contains("`" + name + "`")
                || readme.contains("`" + name + " [")));
        }
    }
}
