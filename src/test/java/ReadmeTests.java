import java.io.IOException;
import java.lang.reflect.InvocationTargetException;
import java.lang.reflect.Method;
import java.nio.file.Files;
import java.nio.file.Path;
import java.util.regex.Matcher;
import java.util.regex.Pattern;

/** What README.md says: the calls of its Java blocks, one behind the other, with the answers behind them; the tests that it names. */
public final class ReadmeTests {
    private static final Pattern CALL = Pattern.compile("hall\\.(\\w+)\\(([^)]*)\\);(?:\\s+// (-?\\d+|true|false|throws \\w+)(?::.*)?)?");
    private static final Check CHECK = new Check();

    private ReadmeTests() {
    }

    public static void main(String[] args) throws IOException {
        String readme = Files.readString(Path.of("README.md"));
        calls(readme);
        namesEachTest(readme);
        CHECK.end();
    }

    private static void calls(String readme) {
        Matcher block = Pattern.compile("```java\n(.*?)```", Pattern.DOTALL).matcher(readme);
        SeatHall hall = null;
        while (block.find()) {
            for (String line : block.group(1).split("\n")) {
                if (line.equals("SeatHall hall = new SeatHall();")) {
                    hall = new SeatHall();
                    continue;
                }
                Matcher call = CALL.matcher(line);
                boolean isCall = call.matches();
                CHECK.due("a call with its answer: " + line, 1, () -> Check.bit(isCall));
                String got = isCall ? answer(hall, call.group(1), call.group(2)) : "";
                String want = isCall && call.group(3) != null ? call.group(3) : "nothing";
                CHECK.due(line + " answered " + got, 1, () -> Check.bit(got.equals(want)));
            }
        }
    }

    private static String answer(SeatHall hall, String name, String list) {
        String[] words = list.isEmpty() ? new String[0] : list.split(", ");
        for (Method method : SeatHall.class.getMethods()) {
            if (method.getName().equals(name) && method.getParameterCount() == words.length) {
                Object[] values = new Object[words.length];
                for (int i = 0; i < words.length; i++) {
                    values[i] = method.getParameterTypes()[i] == boolean.class ? (Object) Boolean.valueOf(words[i]) : Integer.valueOf(words[i]);
                }
                return answer(hall, method, values);
            }
        }
        return "no such call";
    }

    private static String answer(SeatHall hall, Method method, Object[] values) {
        try {
            Object answer = method.invoke(hall, values);
            return answer == null ? "nothing" : answer.toString();
        } catch (InvocationTargetException e) {
            return "throws " + e.getCause().getClass().getSimpleName();
        } catch (IllegalAccessException e) {
            return e.toString();
        }
    }

    private static void namesEachTest(String readme) throws IOException {
        try (var files = Files.list(Path.of("src/test/java"))) {
            for (Path file : files.sorted().toList()) {
                String name = file.getFileName().toString().replace(".java", "");
                if (name.endsWith("Tests")) {
                    CHECK.due("README.md names " + name, 1, () -> Check.bit(readme.contains("`" + name)));
                }
            }
        }
        Matcher named = Pattern.compile("`(\\w+Tests)").matcher(readme);
        while (named.find()) {
            String name = named.group(1);
            CHECK.due("there is " + name, 1, () -> Check.bit(Files.isReadable(Path.of("src/test/java", name + ".java"))));
        }
    }
}
