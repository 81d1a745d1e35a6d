import java.io.IOException;
import java.lang.reflect.Method;
import java.nio.file.DirectoryStream;
import java.nio.file.Files;
import java.nio.file.Path;
import java.util.Map;
import java.util.TreeMap;

/**
 * The words that the tests stand for are the document's own, and under Terms and the promises there
 * are no words for which no test stands.
 */
public final class DocumentTest {
    private static final Path DOCUMENT = Path.of("../shared/DOC.md");
    private static final Path TESTS = Path.of("src/test/java");
    private static final Due due = new Due();

    public static void main(String[] args) throws IOException, ClassNotFoundException {
        if (!Files.exists(DOCUMENT)) {
            System.out.println(DOCUMENT + " is not here: the tests' words are not held against it");
            return;
        }
        Map<String, StringBuilder> left = sections();
        int quoted = 0;
        try (DirectoryStream<Path> files = Files.newDirectoryStream(TESTS, "*Test.java")) {
            for (Path file : files) {
                Class<?> tests = Class.forName(file.getFileName().toString().replace(".java", ""));
                if (tests.isAnnotationPresent(Says.class)) {
                    quoted += strikeOut(tests, left);
                }
            }
        }
        due.is("whether tests were found", quoted > 0 ? 1 : 0, 1);
        for (Map.Entry<String, StringBuilder> section : left.entrySet()) {
            if (section.getKey().equals("Terms") || section.getKey().startsWith("Promise ")) {
                nothingIsLeft(section.getKey(), section.getValue().toString());
            }
        }
        due.end();
    }

    /** The text under each heading, in one line, without what the marks of the page add to it. */
    private static Map<String, StringBuilder> sections() throws IOException {
        Map<String, StringBuilder> all = new TreeMap<>();
        StringBuilder text = new StringBuilder();
        for (String line : Files.readAllLines(DOCUMENT)) {
            if (line.startsWith("## ")) {
                text = new StringBuilder();
                all.put(line.substring(3).trim(), text);
            } else if (!line.startsWith("```")) {
                text.append(withoutFace(line).replace("`", "").trim()).append(' ');
            }
        }
        for (StringBuilder section : all.values()) {
            String oneLine = section.toString().replaceAll("\\s+", " ");
            section.setLength(0);
            section.append(oneLine).append('\n').append(oneLine);
        }
        return all;
    }

    /** A promise begins with the form of the call, which FaceTest holds. */
    private static String withoutFace(String line) {
        return line.replaceFirst("^`[^`]*\\)`: ", "");
    }

    /** Strikes out the words of each test in the second line of its section; the first is for finding them. */
    private static int strikeOut(Class<?> tests, Map<String, StringBuilder> left) {
        String heading = tests.getAnnotation(Says.class).value();
        StringBuilder section = left.get(heading);
        due.is(tests.getName() + ": whether the document has \"" + heading + "\"", section == null ? 0 : 1, 1);
        int quoted = 0;
        for (Method test : Sentences.testsOf(tests)) {
            quoted++;
            if (section != null) {
                String words = test.getAnnotation(Says.class).value();
                boolean isThere = strikeOutWords(section, words);
                due.is(tests.getName() + ": whether \"" + words + "\" stands under " + heading, isThere ? 1 : 0, 1);
            }
        }
        return quoted;
    }

    private static boolean strikeOutWords(StringBuilder section, String words) {
        int length = section.indexOf("\n");
        int at = section.indexOf(words);
        if (at < 0 || at >= length) {
            return false;
        }
        for (int k = at; k >= 0 && k < length; k = section.indexOf(words, k + 1)) {
            for (int n = 0; n < words.length(); n++) {
                section.setCharAt(length + 1 + k + n, '_');
            }
        }
        return true;
    }

    private static void nothingIsLeft(String heading, String section) {
        String left = section.substring(section.indexOf('\n') + 1).replaceAll("_+", " .. ");
        due.is(heading + ": words for which no test stands:" + left, left.chars().filter(Character::isLetterOrDigit).count(), 0);
    }
}
