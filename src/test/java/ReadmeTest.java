import java.io.IOException;
import java.lang.reflect.Method;
import java.lang.reflect.Modifier;
import java.nio.file.Files;
import java.nio.file.Path;
import java.util.List;
import java.util.regex.Matcher;
import java.util.regex.Pattern;
import java.util.stream.Stream;

/** README.md tells the truth: its example answers so, and it names each call and each test. */
public final class ReadmeTest {
    private static final Check C = new Check();
    private static final Pattern CALL = Pattern.compile("x\\.(\\w+)\\((.*)\\); +// (-?\\d+): .*");
    /** The example's own loop; its other lines are calls with the answer that is due. */
    private static final List<String> LOOP = List.of("int[] text = {'a', 'b', ';', 'c', 'a', 'b'};",
        "for (int i = 0; i < 6; i++) {", "    x.put(0, i, text[i]);", "}");

    public static void main(String[] args) throws IOException, ReflectiveOperationException {
        String page = Files.readString(Path.of("README.md"));
        example(page);
        namesEachCall(page);
        namesEachTest(page);
        C.end();
    }

    private static void example(String page) throws ReflectiveOperationException {
        String[] lines = page.split("```java\n")[1].split("```")[0].split("\n");
        C.same("the first line", lines[0], "AddedCries x = new AddedCries();");
        AddedCries x = new AddedCries();
        int calls = 0;
        for (int k = 1; k < lines.length; k++) {
            Matcher call = CALL.matcher(lines[k]);
            if (call.matches()) {
                C.due("README: " + lines[k], answer(x, call.group(1), call.group(2)), Long.parseLong(call.group(3)));
                calls++;
            } else if (lines[k].equals(LOOP.get(0)) && List.of(lines).subList(k, k + LOOP.size()).equals(LOOP)) {
                writeText(x);
                k += LOOP.size() - 1;
            } else {
                C.holds("a line of the example that is tested: " + lines[k], false);
            }
        }
        C.holds("the example has calls", calls > 0);
    }

    private static void writeText(AddedCries x) {
        int[] text = {'a', 'b', ';', 'c', 'a', 'b'};
        for (int i = 0; i < 6; i++) {
            x.put(0, i, text[i]);
        }
    }

    private static long answer(AddedCries x, String name, String told) throws ReflectiveOperationException {
        String[] words = told.isEmpty() ? new String[0] : told.split(", ");
        for (Method m : AddedCries.class.getMethods()) {
            if (m.getName().equals(name) && m.getParameterCount() == words.length) {
                return ((Number) m.invoke(x, numbers(m.getParameterTypes(), words))).longValue();
            }
        }
        throw new NoSuchMethodException(name);
    }

    private static Object[] numbers(Class<?>[] types, String[] words) {
        Object[] numbers = new Object[words.length];
        for (int k = 0; k < words.length; k++) {
            if (types[k] == boolean.class) {
                numbers[k] = Boolean.valueOf(words[k]);
            } else {
                numbers[k] = Integer.valueOf(words[k]);
            }
        }
        return numbers;
    }

    private static void namesEachCall(String page) {
        for (Method m : AddedCries.class.getDeclaredMethods()) {
            boolean isCall = Modifier.isPublic(m.getModifiers());
            C.holds("README names " + m.getName(), !isCall || page.contains("`" + m.getName() + "`"));
        }
    }

    private static void namesEachTest(String page) throws IOException {
        try (Stream<Path> files = Files.list(Path.of("src/test/java"))) {
            for (Path file : files.toList()) {
                String name = file.getFileName().toString().replace(".java", "");
                C.holds("README names " + name, !name.endsWith("Test") || page.contains("- `" + name + "`:"));
            }
        }
    }
}
