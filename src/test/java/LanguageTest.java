import java.io.IOException;
import java.nio.file.Files;
import java.nio.file.Path;
import java.util.List;
import java.util.Set;
import java.util.TreeSet;
import java.util.regex.Matcher;
import java.util.regex.Pattern;

/** What of ../shared/LANGUAGE.md can be told from the text of the class. */
public final class LanguageTest {
    private static final Check C = new Check();
    private static final List<String> NEVER = List.of("throw", "throws", "try", "catch", "finally", "synchronized",
        "assert", "package", "protected", "volatile", "native", "strictfp", "transient", "var", "Object", "hashCode",
        "equals", "toString", "Random", "Thread", "nanoTime", "currentTimeMillis", "Exact", "goto");
    private static final Set<String> LIBRARY = Set.of("Math.min", "Math.max", "Arrays.fill", "System.arraycopy", "Long.MIN_VALUE");

    public static void main(String[] args) throws IOException {
        String code = withoutComments(Files.readString(Path.of("src/main/java/AddedCries.java")));
        for (String word : NEVER) {
            C.holds("no " + word, !Pattern.compile("\\b" + word + "\\b").matcher(code).find());
        }
        C.holds("no lambda, no switch of arrows", !code.contains("->"));
        C.holds("no method reference", !code.contains("::"));
        C.holds("no text", !code.contains("\""));
        C.holds("no divisor to be tested", !code.contains("/") && !code.contains("%"));
        C.holds("no annotation", !code.contains("@"));
        C.holds("no while, each loop has its counter", !Pattern.compile("\\bwhile\\b").matcher(code).find());
        imports(code);
        library(code);
        newOnlyForFields(code);
        classesAreStatic(code);
        methodsAreShort(code);
        C.end();
    }

    private static String withoutComments(String text) {
        return text.replaceAll("(?s)/\\*.*?\\*/", "").replaceAll("//[^\n]*", "");
    }

    private static void imports(String code) {
        Matcher m = Pattern.compile("import ([^;]*);").matcher(code);
        while (m.find()) {
            C.holds("import of " + m.group(1), m.group(1).equals("java.util.Arrays"));
        }
    }

    private static void library(String code) {
        TreeSet<String> used = new TreeSet<>();
        Matcher m = Pattern.compile("\\b(Math|Arrays|System|Long|Integer|String|StringBuilder)\\.\\w+").matcher(code);
        while (m.find()) {
            used.add(m.group());
        }
        used.removeAll(LIBRARY);
        C.holds("of the library also " + used, used.isEmpty());
    }

    /** All is made with the object, so that no call fills the room. */
    private static void newOnlyForFields(String code) {
        int fields = count(code, "private (final )?\\w+(\\[\\])? \\w+ = new ");
        int inConstructor = count(code, "(days|sheets)\\[\\w\\] = new ");
        C.due("new beyond the fields", count(code, "\\bnew\\b"), fields + inConstructor);
    }

    private static int count(String code, String pattern) {
        Matcher m = Pattern.compile(pattern).matcher(code);
        int many = 0;
        while (m.find()) {
            many++;
        }
        return many;
    }

    private static void classesAreStatic(String code) {
        int classes = count(code, "\\bclass\\b");
        C.due("static classes", count(code, "private static final class \\w+ \\{"), classes - 1);
    }

    private static void methodsAreShort(String code) {
        int length = 0;
        for (String line : code.split("\n")) {
            length = line.endsWith(") {") && line.matches("( {4}| {8})\\w.*") && !line.matches(" *(if|for|else).*") ? 0 : length + 1;
            C.holds("a method of at most 60 lines, at: " + line, length <= 60 || line.isBlank());
        }
    }
}
