import java.io.IOException;
import java.lang.reflect.InvocationTargetException;
import java.lang.reflect.Method;
import java.lang.reflect.Modifier;
import java.nio.file.Files;
import java.nio.file.Path;
import java.util.List;
import java.util.Set;
import java.util.TreeSet;
import java.util.regex.Matcher;
import java.util.regex.Pattern;
import java.util.stream.Collectors;
import java.util.stream.Stream;

/** What README.md says of the calls, the classes and the tests is so. */
public final class ReadmeTest {
    private static final Pattern CALL = Pattern.compile(
        "gate\\.(\\w+)\\((.*?)\\); +// (answers|throws) (\\w+|-\\d+)\\b.*");

    public static void main(String[] args) throws IOException, ReflectiveOperationException {
        String readme = Files.readString(Path.of("README.md"));
        Set<String> called = example(between(readme, "```java\n", "```").lines().toList());
        Due.due("the calls in the example", called.toString(), face().toString());
        Due.due("the calls in the table", names(readme, "\\| `(\\w+)\\(.*").toString(), face().toString());
        Due.due("the tests in the table", names(readme, "\\| `(\\w+Test)` .*").toString(), tests().toString());
        Due.due("the classes", built(readme).toString(), classes().toString());
        Due.finish();
    }

    private static String between(String text, String from, String to) {
        int begin = text.indexOf(from) + from.length();
        return text.substring(begin, text.indexOf(to, begin));
    }

    /** Makes the calls of the example on one object: the names of those that were made. */
    private static Set<String> example(List<String> lines) throws ReflectiveOperationException {
        Due.due("the object", lines.get(0), "ProgramGate gate = new ProgramGate();");
        ProgramGate gate = new ProgramGate();
        Set<String> called = new TreeSet<>();
        for (String line : lines.subList(1, lines.size())) {
            Matcher call = CALL.matcher(line);
            Due.due("a line with a call and its answer: " + line, call.matches(), true);
            if (call.matches()) {
                called.add(call.group(1));
                Due.due(line, made(gate, call.group(1), call.group(2)), told(call.group(3), call.group(4)));
            }
        }
        return called;
    }

    private static String told(String how, String what) {
        boolean text = how.equals("throws") || what.equals("true") || what.equals("false");
        return how + " " + (text ? what : Long.decode(what).toString());
    }

    private static String made(ProgramGate gate, String name, String arguments) throws ReflectiveOperationException {
        String[] texts = arguments.isEmpty() ? new String[0] : arguments.split(", ");
        for (Method m : ProgramGate.class.getDeclaredMethods()) {
            if (m.getName().equals(name) && m.getParameterCount() == texts.length) {
                try {
                    return "answers " + m.invoke(gate, numbers(m, texts));
                } catch (InvocationTargetException e) {
                    return "throws " + e.getCause().getClass().getSimpleName();
                }
            }
        }
        return "is no call";
    }

    private static Object[] numbers(Method m, String[] texts) {
        Object[] numbers = new Object[texts.length];
        for (int i = 0; i < texts.length; i++) {
            long number = Long.decode(texts[i].replace("L", ""));
            boolean isLong = m.getParameterTypes()[i] == long.class;
            if (isLong) {
                numbers[i] = number;
            } else {
                numbers[i] = Math.toIntExact(number);
            }
        }
        return numbers;
    }

    private static Set<String> face() {
        Set<String> face = new TreeSet<>();
        for (Method m : ProgramGate.class.getDeclaredMethods()) {
            if (Modifier.isPublic(m.getModifiers())) {
                face.add(m.getName());
            }
        }
        return face;
    }

    private static Set<String> names(String readme, String row) {
        Pattern pattern = Pattern.compile(row);
        return readme.lines().map(pattern::matcher).filter(Matcher::matches).map(m -> m.group(1))
            .collect(Collectors.toCollection(TreeSet::new));
    }

    private static Set<String> tests() throws IOException {
        try (Stream<Path> files = Files.list(Path.of("src/test/java"))) {
            return files.map(p -> p.getFileName().toString()).filter(name -> name.endsWith("Test.java"))
                .map(name -> name.substring(0, name.length() - ".java".length()))
                .collect(Collectors.toCollection(TreeSet::new));
        }
    }

    private static Set<String> built(String readme) {
        Set<String> built = new TreeSet<>();
        Matcher name = Pattern.compile("`([A-Z]\\w+)`").matcher(between(readme, "## How it is built\n", "##"));
        while (name.find()) {
            built.add(name.group(1));
        }
        return built;
    }

    private static Set<String> classes() {
        return Stream.of(ProgramGate.class.getDeclaredClasses()).map(Class::getSimpleName)
            .collect(Collectors.toCollection(TreeSet::new));
    }
}
