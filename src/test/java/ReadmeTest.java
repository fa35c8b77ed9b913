import java.io.IOException;
import java.lang.reflect.InvocationTargetException;
import java.lang.reflect.Method;
import java.nio.file.Files;
import java.nio.file.Path;
import java.util.List;
import java.util.regex.Matcher;
import java.util.regex.Pattern;

/** What README.md says holds: its example answers what its comments say, and what it names is there. */
public final class ReadmeTest extends Checks {
    private static final Path README = Path.of("README.md");
    private static final List<Path> PLACES = List.of(Path.of("."), Path.of("src/test/java"));

    private ReadmeTest() {
    }

    private static Object answer(PerhapsRows x, String name, String arguments) throws ReflectiveOperationException {
        String[] told = arguments.isBlank() ? new String[0] : arguments.split(",");
        Object[] values = new Object[told.length];
        for (int i = 0; i < told.length; i++) {
            values[i] = Integer.decode(told[i].trim());
        }
        for (Method m : PerhapsRows.class.getMethods()) {
            if (m.getName().equals(name) && m.getParameterCount() == values.length) {
                return m.invoke(x, values);
            }
        }
        throw new NoSuchMethodException(name);
    }

    /** One object goes through all examples. */
    private static void examples(String text) throws ReflectiveOperationException {
        Matcher block = Pattern.compile("(?s)```java\n(.*?)```").matcher(text);
        PerhapsRows x = new PerhapsRows();
        int compared = 0;
        while (block.find()) {
            for (String line : block.group(1).split("\n")) {
                compared += compare(x, line) ? 1 : 0;
            }
        }
        due("some answers are told", true, compared >= 10);
    }

    /** A comment behind a call starts with its answer, if that is a number, true or false: whether it does. */
    private static boolean compare(PerhapsRows x, String line) throws ReflectiveOperationException {
        Matcher call = Pattern.compile("x\\.(\\w+)\\(([^)]*)\\);(?:\\s*// (-?\\d+|true|false)?.*)?").matcher(line);
        if (!call.matches()) {
            due("no call: " + line, true, line.startsWith("//") || line.equals("PerhapsRows x = new PerhapsRows();"));
            return false;
        }
        try {
            Object got = answer(x, call.group(1), call.group(2));
            if (call.group(3) != null) {
                due(line, call.group(3), got);
            }
        } catch (InvocationTargetException e) {
            due(line, "no throw", e.getCause());
        }
        return call.group(3) != null;
    }

    /** Files and folders are named in whole, tests by the class; `java ModelTest RUNS FIRST_SEED` is a command. */
    private static void named(String text) {
        Matcher names = Pattern.compile("`([^`\n]+)`").matcher(text.replaceAll("(?s)```.*?```", ""));
        while (names.find()) {
            String name = names.group(1);
            if (name.contains("/") || name.matches("\\w+Test")) {
                String file = name.endsWith("Test") ? name + ".java" : name;
                due(name + " is there", true, PLACES.stream().anyMatch(p -> Files.exists(p.resolve(file))));
            }
        }
    }

    private static void everyTestIsNamed(String text) throws IOException {
        try (var files = Files.list(PLACES.get(1))) {
            files.map(f -> f.getFileName().toString().replace(".java", ""))
                    .forEach(name -> due(name + " is named in README.md", true, text.contains("`" + name + "`")));
        }
    }

    public static void main(String[] args) throws Exception {
        String text = Files.readString(README);
        examples(text);
        named(text);
        everyTestIsNamed(text);
        report("README.md");
    }
}
