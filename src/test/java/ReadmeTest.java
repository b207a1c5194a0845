import java.lang.reflect.Method;
import java.nio.file.Files;
import java.nio.file.Path;
import java.util.HashMap;
import java.util.List;
import java.util.Map;
import java.util.regex.Matcher;
import java.util.regex.Pattern;

/** The calls of the example in README.md, each with the answer that stands behind it there. */
public final class ReadmeTest {
    private static final Pattern CALL = Pattern.compile("(?:int (\\w+) = )?x\\.(\\w+)\\((.*)\\);\\s+// (-?\\d+).*");
    private static final Pattern TEXT = Pattern.compile("typeText\\(x, \"(.*)\"\\);");

    private static final MappingText x = new MappingText();
    private static final Map<String, Integer> variables = new HashMap<>();
    private static int calls = 0;
    private static int wrong = 0;

    public static void main(String[] args) throws Exception {
        List<String> lines = Files.readAllLines(Path.of("README.md"));
        int from = lines.indexOf("MappingText x = new MappingText();");
        for (int i = from + 1; from >= 0 && i < lines.size() && !lines.get(i).equals("```"); i++) {
            runLine(lines.get(i));
        }
        if (calls == 0) {
            wrong++;
            System.out.println("README.md has no example");
        }
        System.out.println(wrong == 0 ? "the example's " + calls + " answers are as told" : wrong + " lines are not so");
        if (wrong != 0) {
            System.exit(1);
        }
    }

    private static void runLine(String line) throws Exception {
        Matcher text = TEXT.matcher(line);
        Matcher call = CALL.matcher(line);
        if (text.matches()) {
            typeText(text.group(1).replace("\\\"", "\""));
        } else if (call.matches()) {
            runCall(line, call);
        } else if (!line.isEmpty()) {
            wrong++;
            System.out.println("not understood: " + line);
        }
    }

    private static void typeText(String text) {
        for (int i = 0; i < text.length(); i++) {
            x.type(text.charAt(i), 1);
        }
    }

    private static void runCall(String line, Matcher call) throws Exception {
        int got = (int) methodNamed(call.group(2)).invoke(x, arguments(call.group(3)));
        calls++;
        if (call.group(1) != null) {
            variables.put(call.group(1), got);
        }
        if (got != Integer.parseInt(call.group(4))) {
            wrong++;
            System.out.println("answered " + got + ": " + line);
        }
    }

    private static Method methodNamed(String name) throws NoSuchMethodException {
        for (Method method : MappingText.class.getDeclaredMethods()) {
            if (method.getName().equals(name)) {
                return method;
            }
        }
        throw new NoSuchMethodException(name);
    }

    private static Object[] arguments(String list) {
        if (list.isEmpty()) {
            return new Object[0];
        }
        String[] parts = list.split(", ");
        Object[] values = new Object[parts.length];
        for (int i = 0; i < parts.length; i++) {
            values[i] = argument(parts[i]);
        }
        return values;
    }

    private static Object argument(String part) {
        if (part.equals("true") || part.equals("false")) {
            return part.equals("true");
        }
        Integer variable = variables.get(part);
        return variable != null ? variable : Integer.valueOf(part);
    }
}
