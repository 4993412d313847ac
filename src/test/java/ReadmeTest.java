import java.io.IOException;
import java.lang.reflect.Method;
import java.lang.reflect.Modifier;
import java.nio.file.Files;
import java.nio.file.Path;
import java.util.ArrayList;
import java.util.List;
import java.util.Set;
import java.util.TreeSet;
import java.util.regex.Matcher;
import java.util.regex.Pattern;

/** What README.md shows: the face, and each call that it makes, with the answer that it tells. Runs in the project's directory. */
public final class ReadmeTest {
    private static final Check c = new Check("ReadmeTest");
    private static final String NEW = "EightLegs x = new EightLegs();";
    private static final Pattern CALL = Pattern.compile("x\\.(\\w+)\\((.*)\\); +// ([A-Za-z_.]+|-?[0-9]+)(: .+)?");
    // each must be shown by some call
    private static final String[] ANSWERS = {"BAD", "NOT", "FULL", "STATE", "VOID", "-11", "-12", "-13", "-14", "-99", "-100",
        "Long.MIN_VALUE"};

    private final Set<String> called = new TreeSet<>();
    private final Set<String> answered = new TreeSet<>();
    private EightLegs x;
    private int calls;

    private ReadmeTest() {
    }

    public static void main(String[] args) throws IOException, ReflectiveOperationException {
        List<String> readme = blocks(Path.of("README.md"));
        List<String> document = blocks(Path.of("../shared/DOC.md"));
        c.due("the document has one face", document.size(), 1);
        c.due("README.md begins with the document's face", !readme.isEmpty() && document.contains(readme.get(0)) ? 1 : 0, 1);
        ReadmeTest shown = new ReadmeTest();
        for (String block : readme.subList(Math.min(1, readme.size()), readme.size())) {
            for (String line : block.split("\n")) {
                shown.line(line);
            }
        }
        shown.isWhole();
        c.end();
    }

    /** What stands between ```java and ```, block by block. */
    private static List<String> blocks(Path page) throws IOException {
        List<String> found = new ArrayList<>();
        Matcher m = Pattern.compile("```java\n(.*?)```", Pattern.DOTALL).matcher(Files.readString(page));
        while (m.find()) {
            found.add(m.group(1));
        }
        return found;
    }

    private void line(String line) throws ReflectiveOperationException {
        if (line.equals(NEW)) {
            x = new EightLegs();
            calls = 0;
            return;
        }
        Matcher m = CALL.matcher(line);
        if (!m.matches() || x == null) {
            c.due("a line that is no call: " + line, 0, 1);
            return;
        }
        calls++;
        called.add(m.group(1));
        answered.add(m.group(3));
        c.due(line, answerOf(m.group(1), m.group(2).isEmpty() ? new String[0] : m.group(2).split(", ")), worth(m.group(3)));
        c.due("within 512 calls: " + line, calls <= 512 ? 1 : 0, 1);
    }

    private long answerOf(String name, String[] told) throws ReflectiveOperationException {
        for (Method m : EightLegs.class.getMethods()) {
            if (m.getDeclaringClass() == EightLegs.class && m.getName().equals(name) && m.getParameterCount() == told.length) {
                Object[] numbers = new Object[told.length];
                for (int i = 0; i < told.length; i++) {
                    numbers[i] = number(m.getParameterTypes()[i], told[i]);
                }
                return ((Number) m.invoke(x, numbers)).longValue();
            }
        }
        c.due("there is a call " + name + " of " + told.length, 0, 1);
        return 0;
    }

    private static Object number(Class<?> type, String told) {
        long value = told.matches("'.'") ? told.charAt(1) : Long.parseLong(told);
        if (type == long.class) {
            return value;
        }
        return Math.toIntExact(value);
    }

    private static long worth(String answer) throws ReflectiveOperationException {
        if (answer.equals("Long.MIN_VALUE")) {
            return Long.MIN_VALUE;
        }
        return answer.matches("[A-Z]+") ? EightLegs.class.getField(answer).getInt(null) : Long.parseLong(answer);
    }

    private void isWhole() {
        for (Method m : EightLegs.class.getDeclaredMethods()) {
            if (Modifier.isPublic(m.getModifiers())) {
                c.due("README.md shows " + m.getName(), called.contains(m.getName()) ? 1 : 0, 1);
            }
        }
        for (String answer : ANSWERS) {
            c.due("README.md shows the answer " + answer, answered.contains(answer) ? 1 : 0, 1);
        }
    }
}
