import java.io.File;
import java.io.IOException;
import java.lang.reflect.Method;
import java.nio.file.Files;
import java.nio.file.Path;
import java.util.Set;
import java.util.TreeSet;
import java.util.regex.Matcher;
import java.util.regex.Pattern;

/** The calls that README.md shows as an example, taken from there, answer as README.md says. */
public final class ReadmeTest {
    private static final Pattern CALL = Pattern.compile("x\\.(\\w+)\\((.*)\\);\\s*// (-?\\w+)(:.*)?");
    private static final Pattern TEXT = Pattern.compile("// \"(.*)\"");

    private static final TrajectoryRails X = new TrajectoryRails();
    private static final Set<String> CALLED = new TreeSet<>();
    private static final StringBuilder FED = new StringBuilder();
    private static String text = "";

    public static void main(String[] args) throws IOException, ReflectiveOperationException {
        String page = Files.readString(Path.of("README.md"));
        for (String line : exampleOf(page).split("\n")) {
            take(line.trim());
        }
        eachCallIsShown(page);
        eachTestIsNamed(page);
        yes("how to run the tests", page.contains(".ci/run"));
        Rig.finish();
    }

    private static void yes(String what, boolean holds) {
        Rig.due(what, holds ? 1 : 0, 1);
    }

    private static String exampleOf(String page) {
        int from = page.indexOf("```java\n");
        int to = page.indexOf("```", from + 3);
        yes("there is an example", from >= 0 && to > from);
        return from >= 0 && to > from ? page.substring(from + 8, to) : "";
    }

    private static void take(String line) throws ReflectiveOperationException {
        Matcher call = CALL.matcher(line);
        Matcher told = TEXT.matcher(line);
        if (call.matches()) {
            ask(call.group(1), numbers(call.group(2)), call.group(3));
        } else if (told.matches()) {
            text = told.group(1);
        } else {
            yes("known line: " + line, line.isEmpty() || line.equals("TrajectoryRails x = new TrajectoryRails();"));
        }
    }

    private static int[] numbers(String list) {
        if (list.isEmpty()) {
            return new int[0];
        }
        String[] parts = list.split(", ");
        int[] numbers = new int[parts.length];
        for (int i = 0; i < parts.length; i++) {
            numbers[i] = (int) (long) Long.decode(parts[i]);
        }
        return numbers;
    }

    private static void ask(String name, int[] numbers, String answer) throws ReflectiveOperationException {
        Class<?>[] types = new Class<?>[numbers.length];
        Object[] values = new Object[numbers.length];
        for (int i = 0; i < numbers.length; i++) {
            types[i] = int.class;
            values[i] = numbers[i];
        }
        Method method = TrajectoryRails.class.getMethod(name, types);
        Rig.due(name + " in README.md", (int) method.invoke(X, values), due(answer));
        CALLED.add(name);
        watchTheTape(name, numbers);
    }

    private static int due(String answer) throws ReflectiveOperationException {
        if (answer.matches("-?\\d+")) {
            return Integer.parseInt(answer);
        }
        return TrajectoryRails.class.getField(answer).getInt(null);
    }

    /** The bytes that are fed are those of the text that stands above them. */
    private static void watchTheTape(String name, int[] numbers) {
        if (name.equals("feed")) {
            for (int i = 0; i < 20; i++) {
                FED.append((char) (numbers[i / 4] >> 24 - 8 * (i % 4) & 255));
            }
        } else if (name.equals("end")) {
            FED.setLength(numbers[0]);
            yes(FED + " is fed for " + text, text.contentEquals(FED));
            FED.setLength(0);
        }
    }

    private static void eachCallIsShown(String page) {
        for (Method method : TrajectoryRails.class.getDeclaredMethods()) {
            if (java.lang.reflect.Modifier.isPublic(method.getModifiers())) {
                yes(method.getName() + " is in the example", CALLED.contains(method.getName()));
                yes(method.getName() + " is in the table", page.contains("| `" + method.getName() + "("));
            }
        }
    }

    private static void eachTestIsNamed(String page) {
        String[] files = new File("src/test/java").list();
        yes("there are tests", files != null && files.length > 0);
        for (String file : files == null ? new String[0] : files) {
            if (file.endsWith("Test.java")) {
                String name = file.substring(0, file.length() - ".java".length());
                yes(name + " is in the table", page.contains("| " + name + " |"));
            }
        }
    }
}
