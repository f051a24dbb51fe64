import java.io.File;
import java.io.IOException;
import java.lang.reflect.InvocationTargetException;
import java.lang.reflect.Method;
import java.lang.reflect.Modifier;
import java.nio.file.Files;
import java.nio.file.Path;
import java.util.ArrayList;
import java.util.List;
import java.util.Set;
import java.util.TreeSet;
import java.util.regex.Matcher;
import java.util.regex.Pattern;

/** Runs the examples as they stand in README.md, so that what it says of answers can't part from the class. */
public final class ReadmeTest {
    private static final Check CHECK = new Check("ReadmeTest");
    private static final String MAKES = "TermKeeper keeper = new TermKeeper();";
    private static final Pattern BLOCK = Pattern.compile("(?s)```java\n(.*?)```");
    private static final Pattern CALL = Pattern.compile("keeper\\.(\\w+)\\(([^()]*)\\);\\s*");
    private static final Pattern ANSWER = Pattern.compile("(throws \\w+|true|false|-?\\d+): .+");

    private static TermKeeper keeper;
    private static final Set<String> SHOWN = new TreeSet<>();

    public static void main(String[] args) throws IOException {
        String readme = Files.readString(Path.of("README.md"));
        Matcher block = BLOCK.matcher(readme);
        while (block.find()) {
            for (String line : block.group(1).split("\n")) {
                runLine(line);
            }
        }
        everyCallIsShown();
        everyTestIsNamed(readme);
        CHECK.end();
    }

    private static void runLine(String line) {
        String[] parts = line.split("//", 2);
        String code = parts[0].trim();
        if (code.equals(MAKES)) {
            keeper = new TermKeeper();
            return;
        }
        String answer = null;
        Matcher call = CALL.matcher(code);
        int behind = 0;
        while (call.find() && call.start() == behind) {
            answer = answerOf(call.group(1), call.group(2));
            behind = call.end();
        }
        CHECK.due("calls alone stand in: " + line, behind == code.length() && answer != null, true);
        Matcher named = ANSWER.matcher(parts.length == 2 ? parts[1].trim() : "");
        CHECK.due("an answer is named in: " + line, named.matches(), true);
        CHECK.due(line, answer, named.matches() ? named.group(1) : "");
    }

    private static String answerOf(String name, String arguments) {
        SHOWN.add(name);
        List<Object> values = new ArrayList<>();
        for (String written : arguments.isEmpty() ? new String[0] : arguments.split(", ")) {
            values.add(valueOf(written));
        }
        for (Method method : TermKeeper.class.getDeclaredMethods()) {
            if (method.getName().equals(name) && Modifier.isPublic(method.getModifiers())) {
                return invoked(method, values);
            }
        }
        return "there is no call " + name;
    }

    private static Object valueOf(String written) {
        if (written.equals("true") || written.equals("false")) {
            return Boolean.valueOf(written);
        }
        if (written.endsWith("L")) {
            return Long.decode(written.substring(0, written.length() - 1));
        }
        return written.equals("TermKeeper.NONE") ? Integer.valueOf(TermKeeper.NONE) : Integer.decode(written);
    }

    private static String invoked(Method method, List<Object> values) {
        try {
            return String.valueOf(method.invoke(keeper, values.toArray()));
        } catch (InvocationTargetException thrown) {
            return "throws " + thrown.getCause().getClass().getSimpleName();
        } catch (IllegalAccessException | IllegalArgumentException wrong) {
            return "can't be called so: " + wrong.getMessage();
        }
    }

    private static void everyCallIsShown() {
        Set<String> face = new TreeSet<>();
        for (Method method : TermKeeper.class.getDeclaredMethods()) {
            if (Modifier.isPublic(method.getModifiers())) {
                face.add(method.getName());
            }
        }
        CHECK.due("the calls that the examples show", SHOWN, face);
    }

    private static void everyTestIsNamed(String readme) {
        for (String file : new TreeSet<>(List.of(new File("src/test/java").list()))) {
            if (file.endsWith("Test.java")) {
                String name = file.substring(0, file.length() - ".java".length());
                CHECK.due("README.md tells of " + name, readme.contains("| `" + name + "` |"), true);
            }
        }
    }
}
