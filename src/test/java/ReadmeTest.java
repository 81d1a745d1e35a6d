import java.io.IOException;
import java.lang.reflect.Field;
import java.lang.reflect.Method;
import java.lang.reflect.Modifier;
import java.nio.file.Files;
import java.nio.file.Path;
import java.util.List;
import java.util.regex.Matcher;
import java.util.regex.Pattern;

/** What README.md tells of the class and of its tests is so. */
public final class ReadmeTest {
    private static final Path README = Path.of("README.md");
    private static final Path TESTS = Path.of("src/test/java");
    /** A call and, behind it, what it answers: an int, a constant, or ERROR and a constant. */
    private static final Pattern CALL =
            Pattern.compile("desk\\.(\\w+)\\(([-0-9, ]*)\\);\\s*// ((?:ERROR \\+ )?[A-Z]+|-?\\d+)(?::.*)?");
    private static final Pattern ROW_OF_TABLE = Pattern.compile("\\| `(\\w+)\\(([a-z, ]*)\\)` \\|.*");
    private static final Pattern CONSTANT = Pattern.compile("`([A-Z]+)`\\s+\\((-\\d+),");
    private static final Pattern OWN_TEST = Pattern.compile("\\b([A-Z]\\w*Test)\\b");
    /** What lies under ../shared/tests is not the project's own to name. */
    private static final Pattern OWN_FILE = Pattern.compile("(?<!\\*|shared/tests/)\\b([A-Z]\\w*)\\.java\\b");
    private static final Due due = new Due();

    public static void main(String[] args) throws ReflectiveOperationException, IOException {
        List<String> lines = Files.readAllLines(README);
        String text = String.join("\n", lines);
        runsAnswer(lines);
        namesEveryCall(lines);
        namesEveryConstant(text);
        namesTestsThatAreThere(text);
        tellsErrorsApart();
        due.end();
    }

    /** Every run begins with an object of its own. */
    private static void runsAnswer(List<String> lines) throws ReflectiveOperationException {
        ClassDesk desk = new ClassDesk();
        int runs = 0;
        for (String line : lines) {
            if (line.equals("ClassDesk desk = new ClassDesk();")) {
                desk = new ClassDesk();
                runs++;
            } else if (line.startsWith("desk.")) {
                Matcher call = CALL.matcher(line);
                holds("the test can read: " + line, call.matches());
                if (call.matches()) {
                    due.is(line, answerOf(desk, call.group(1), call.group(2)), valueOf(call.group(3)));
                }
            }
        }
        due.is("runs in " + README, runs, 3);
    }

    private static long answerOf(ClassDesk desk, String name, String arguments) throws ReflectiveOperationException {
        String[] texts = arguments.split(", ");
        Object[] ints = new Object[texts.length];
        for (int k = 0; k < texts.length; k++) {
            ints[k] = Integer.valueOf(texts[k]);
        }
        return ((Number) methodNamed(name).invoke(desk, ints)).longValue();
    }

    private static long valueOf(String answer) throws ReflectiveOperationException {
        if (answer.startsWith("ERROR + ")) {
            return ClassDesk.ERROR + valueOf(answer.substring("ERROR + ".length()));
        }
        return Character.isUpperCase(answer.charAt(0))
                ? ClassDesk.class.getField(answer).getInt(null) : Integer.parseInt(answer);
    }

    private static Method methodNamed(String name) throws NoSuchMethodException {
        for (Method method : ClassDesk.class.getDeclaredMethods()) {
            if (method.getName().equals(name) && Modifier.isPublic(method.getModifiers())) {
                return method;
            }
        }
        throw new NoSuchMethodException(name);
    }

    private static void namesEveryCall(List<String> lines) throws NoSuchMethodException {
        int named = 0;
        for (String line : lines) {
            Matcher row = ROW_OF_TABLE.matcher(line);
            if (row.matches()) {
                named++;
                due.is("arguments of " + row.group(1), row.group(2).split(", ").length,
                        methodNamed(row.group(1)).getParameterCount());
            }
        }
        int there = 0;
        for (Method method : ClassDesk.class.getDeclaredMethods()) {
            there += Modifier.isPublic(method.getModifiers()) ? 1 : 0;
        }
        due.is("calls in the table", named, there);
    }

    private static void namesEveryConstant(String text) throws ReflectiveOperationException {
        Matcher constant = CONSTANT.matcher(text);
        int named = 0;
        while (constant.find()) {
            named++;
            due.is(constant.group(1), Integer.parseInt(constant.group(2)), valueOf(constant.group(1)));
        }
        int there = 0;
        for (Field field : ClassDesk.class.getDeclaredFields()) {
            there += Modifier.isPublic(field.getModifiers()) && field.getType() == int.class ? 1 : 0;
        }
        due.is("constants beside ERROR", named, there);
    }

    private static void namesTestsThatAreThere(String text) {
        Matcher own = OWN_TEST.matcher(text);
        while (own.find()) {
            holds(own.group(1) + " is there", Files.exists(TESTS.resolve(own.group(1) + ".java")));
        }
        Matcher file = OWN_FILE.matcher(text.substring(text.indexOf("\n## Tests")));
        while (file.find()) {
            String name = file.group(1) + ".java";
            holds(name + " is there", name.equals("ClassDesk.java") || Files.exists(TESTS.resolve(name)));
        }
    }

    /** The way that is told there, for the least and the greatest int and for each ERROR. */
    private static void tellsErrorsApart() {
        ClassDesk desk = new ClassDesk();
        desk.slot(0, 0, 1, Integer.MAX_VALUE);
        desk.slot(0, 1, 1, Integer.MIN_VALUE);
        desk.make(0);
        holds("the greatest int is no ERROR", !(desk.get(0, 0) > Integer.MAX_VALUE));
        holds("the least int is no ERROR", !(desk.get(0, 1) > Integer.MAX_VALUE));
        for (int code = ClassDesk.DEEP; code <= ClassDesk.REFUSED; code++) {
            long answer = ClassDesk.ERROR + code;
            holds("ERROR + " + code + " is one", answer > Integer.MAX_VALUE);
            due.is("why", (int) (answer - ClassDesk.ERROR), code);
        }
    }

    private static void holds(String what, boolean isSo) {
        due.is(what, isSo ? 1 : 0, 1);
    }
}
