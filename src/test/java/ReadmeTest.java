import java.lang.reflect.Method;
import java.lang.reflect.Modifier;
import java.nio.file.Files;
import java.nio.file.Path;
import java.util.regex.Matcher;
import java.util.regex.Pattern;

/** README.md: its example answers as it says, and its table has every call of the face. */
public final class ReadmeTest {
    private static final Pattern TEXT = Pattern.compile("for \\(char letter : \"([^\"]*)\"");
    private static final Pattern CALL = Pattern.compile("(?m)^parish\\.(\\w+)\\(([-0-9, ]*)\\); *// (-?\\d+) ");
    private static int wrong;

    private static void due(String what, Object got, Object want) {
        if (!got.equals(want)) {
            wrong++;
            System.out.println("README: " + what + " is " + got + ", due is " + want);
        }
    }

    private static Method method(String name) {
        for (Method m : MoonRights.class.getMethods()) {
            if (m.getName().equals(name)) {
                return m;
            }
        }
        throw new IllegalStateException("README calls " + name + ", which there is not");
    }

    private static Object[] numbers(String list) {
        if (list.isBlank()) {
            return new Object[0];
        }
        String[] parts = list.split(", *");
        Object[] values = new Object[parts.length];
        for (int i = 0; i < parts.length; i++) {
            values[i] = Integer.valueOf(parts[i].trim());
        }
        return values;
    }

    private static void example(String block) throws Exception {
        Matcher text = TEXT.matcher(block);
        due("a text in the example", text.find(), true);
        MoonRights parish = new MoonRights();
        for (char letter : text.group(1).toCharArray()) {
            parish.type(letter);
        }
        int calls = 0;
        Matcher call = CALL.matcher(block);
        while (call.find()) {
            Object got = method(call.group(1)).invoke(parish, numbers(call.group(2)));
            due(call.group(1) + "(" + call.group(2) + ")", Long.parseLong(call.group(3)), ((Number) got).longValue());
            calls++;
        }
        due("calls of the example that were looked at", (long) calls, block.lines().filter(l -> l.startsWith("parish.")).count());
    }

    private static void table(String page) {
        for (Method m : MoonRights.class.getDeclaredMethods()) {
            if (Modifier.isPublic(m.getModifiers())) {
                Matcher row = Pattern.compile("(?m)^\\| `" + m.getName() + "\\(([^)]*)\\)`").matcher(page);
                boolean found = row.find();
                due("a row of " + m.getName(), found, true);
                int names = !found || row.group(1).isEmpty() ? 0 : row.group(1).split(",").length;
                due("numbers of " + m.getName(), names, m.getParameterCount());
            }
        }
    }

    public static void main(String[] args) throws Exception {
        String page = Files.readString(Path.of("README.md"));
        int from = page.indexOf("```java");
        example(page.substring(from, page.indexOf("```", from + 3)));
        table(page);
        System.out.println(wrong == 0 ? "README is as the program is" : wrong + " things are not as README says");
        System.exit(wrong == 0 ? 0 : 1);
    }
}
