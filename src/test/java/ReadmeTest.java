import java.io.IOException;
import java.lang.reflect.Method;
import java.lang.reflect.Modifier;
import java.nio.file.Files;
import java.nio.file.Path;
import java.util.regex.Matcher;
import java.util.regex.Pattern;

/** That README.md tells the truth: each row of its run answers what it says, and every call is named. */
public final class ReadmeTest {
    private static final Pattern TOLD = Pattern.compile("tell\\(x, \"([^\"]*)\"\\); +// (\\w+).*");
    private static final Pattern ASKED = Pattern.compile("x\\.(\\w+)\\(([^)]*)\\); +// (-?\\w+).*");

    private static int followed;

    public static void main(String[] args) throws ReflectiveOperationException, IOException {
        String readme = Files.readString(Path.of("README.md"));
        BentFurrows x = new BentFurrows();
        for (String row : readme.split("\n")) {
            follow(x, row);
        }
        Due.is("rows of the run that were followed", followed > 40 ? 1 : 0, 1);
        for (Method method : BentFurrows.class.getDeclaredMethods()) {
            if (Modifier.isPublic(method.getModifiers())) {
                boolean named = readme.contains("`" + method.getName() + "`");
                Due.is("the table names " + method.getName(), named ? 1 : 0, 1);
                boolean run = readme.contains("x." + method.getName() + "(");
                Due.is("the run has " + method.getName(), run ? 1 : 0, 1);
            }
        }
        everyTestIsNamed(readme);
        Due.end();
    }

    private static void follow(BentFurrows x, String row) throws ReflectiveOperationException {
        Matcher told = TOLD.matcher(row);
        Matcher asked = ASKED.matcher(row);
        if (told.matches()) {
            Due.write(x, told.group(1));
            Due.is(row, x.parish(), number(told.group(2)));
            followed++;
        } else if (asked.matches()) {
            Due.is(row, answer(x, asked.group(1), asked.group(2)), number(asked.group(3)));
            followed++;
        } else {
            // a row with an answer that is not understood would not be tested
            boolean lost = row.startsWith("x.") || row.startsWith("tell(");
            Due.is("a row that cannot be followed: " + row, lost ? 1 : 0, 0);
        }
    }

    private static int answer(BentFurrows x, String name, String arguments) throws ReflectiveOperationException {
        String[] parts = arguments.isEmpty() ? new String[0] : arguments.split(", ");
        for (Method method : BentFurrows.class.getDeclaredMethods()) {
            if (method.getName().equals(name) && method.getParameterCount() == parts.length) {
                Object[] values = new Object[parts.length];
                for (int i = 0; i < parts.length; i++) {
                    long value = number(parts[i]);
                    if (method.getParameterTypes()[i] == long.class) {
                        values[i] = value;
                    } else {
                        values[i] = (int) value;
                    }
                }
                return (int) method.invoke(x, values);
            }
        }
        throw new NoSuchMethodException(name);
    }

    private static long number(String word) throws ReflectiveOperationException {
        if (word.matches(".*[A-Z]{3,}")) {
            return BentFurrows.class.getField(word.substring(word.indexOf('.') + 1)).getInt(null);
        }
        return Long.decode(word.replaceAll("L$", ""));
    }

    private static void everyTestIsNamed(String readme) throws IOException {
        try (var files = Files.list(Path.of("src/test/java"))) {
            for (Path file : files.toList()) {
                String name = file.getFileName().toString().replace(".java", "");
                if (name.endsWith("Test")) {
                    Due.is("the table names " + name, readme.contains("| `" + name + "` |") ? 1 : 0, 1);
                }
            }
        }
    }
}
