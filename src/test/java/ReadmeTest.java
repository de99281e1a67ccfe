import java.io.IOException;
import java.io.UncheckedIOException;
import java.lang.reflect.InvocationTargetException;
import java.lang.reflect.Method;
import java.lang.reflect.Modifier;
import java.nio.file.Files;
import java.nio.file.Path;
import java.util.List;
import java.util.Set;
import java.util.TreeSet;
import java.util.regex.Matcher;
import java.util.regex.Pattern;

/** README.md, from the directory in which the test is run: it must not tell what the class does not do. */
public final class ReadmeTest {
    private static final Pattern EXAMPLE = Pattern.compile("forge\\.(\\w+)\\(([^)]*)\\);\\s*// ([^:]*):.*");

    public static void main(String[] args) {
        new Check("README.md").lookAt(ReadmeTest::example, ReadmeTest::eachCallIsTold);
    }

    private static List<String> lines() {
        try {
            return Files.readAllLines(Path.of("README.md"));
        } catch (IOException e) {
            throw new UncheckedIOException(e);
        }
    }

    private static void example(Check check) {
        check.sentence("What each call answers stands behind it");
        AllocForge forge = new AllocForge();
        Set<String> called = new TreeSet<>();
        for (String line : lines()) {
            Matcher matcher = EXAMPLE.matcher(line);
            if (matcher.matches()) {
                called.add(matcher.group(1));
                check.due(matcher.group(3), line, () -> answer(forge, matcher.group(1), matcher.group(2)));
            } else {
                check.due(false, "a call without its answer: " + line, () -> line.startsWith("forge."));
            }
        }
        check.due(namesOfTheFace(), "the calls of the example", () -> called);
    }

    private static Set<String> namesOfTheFace() {
        Set<String> names = new TreeSet<>();
        for (Method method : AllocForge.class.getDeclaredMethods()) {
            if (Modifier.isPublic(method.getModifiers())) {
                names.add(method.getName());
            }
        }
        return names;
    }

    private static void eachCallIsTold(Check check) {
        check.sentence("the table of calls");
        List<String> lines = lines();
        for (Method method : AllocForge.class.getDeclaredMethods()) {
            if (Modifier.isPublic(method.getModifiers())) {
                check.due(1L, "rows for " + method.getName(), () -> rowsFor(lines, method));
            }
        }
    }

    // A row tells a call and the exceptions of its face, all of them and no other.
    private static long rowsFor(List<String> lines, Method method) {
        return lines.stream()
                .filter(line -> line.startsWith("| `" + method.getName() + "("))
                .filter(line -> line.split("Exception`", -1).length - 1 == method.getExceptionTypes().length)
                .filter(line -> namesAll(line, method.getExceptionTypes()))
                .count();
    }

    private static boolean namesAll(String line, Class<?>[] exceptions) {
        int from = 0;
        for (Class<?> exception : exceptions) {
            from = line.indexOf("`" + exception.getSimpleName() + "`", from);
            if (from < 0) {
                return false;
            }
        }
        return true;
    }

    private static String answer(AllocForge forge, String name, String numbers) {
        String[] texts = numbers.isEmpty() ? new String[0] : numbers.split(", ");
        Class<?>[] types = new Class<?>[texts.length];
        Object[] given = new Object[texts.length];
        for (int i = 0; i < texts.length; i++) {
            types[i] = int.class;
            given[i] = Integer.valueOf(texts[i]);
        }
        try {
            return String.valueOf(AllocForge.class.getMethod(name, types).invoke(forge, given));
        } catch (InvocationTargetException e) {
            return e.getCause().toString();
        } catch (ReflectiveOperationException e) {
            return "no such call";
        }
    }
}
