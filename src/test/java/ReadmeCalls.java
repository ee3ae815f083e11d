import java.io.IOException;
import java.lang.reflect.Method;
import java.lang.reflect.Modifier;
import java.nio.file.Files;
import java.nio.file.Path;
import java.util.Set;
import java.util.TreeSet;
import java.util.function.Consumer;
import java.util.function.Supplier;
import java.util.regex.Matcher;
import java.util.regex.Pattern;

/**
 * Writes ReadmeTest, which makes the calls that README.md shows just as they stand there and compares their answers;
 * .ci/run compiles and runs it.
 */
public final class ReadmeCalls {
    private static final Path README = Path.of("README.md");
    private static final Pattern BLOCK = Pattern.compile("(?s)```java\n(.*?)```");
    private static final Pattern ANSWERED = Pattern.compile("(\\S.*\\)); +// ([^:]+)(?:: (.*))?");
    private static final Pattern LINE_WRITTEN = Pattern.compile("the length of ([0-9.abc<>!]+)");
    private static final Pattern ROW_OF_TEXT = Pattern.compile("(?m)^\\| `(\\S+)` +\\| `(\\w+\\(.*\\))` +\\|$");
    private static final Pattern NAME = Pattern.compile("\\.(\\w+)\\(");

    private final String readme;
    private final StringBuilder source = new StringBuilder();
    private final Set<String> methodsShown = new TreeSet<>();
    private final Set<String> commandsShown = new TreeSet<>();

    private ReadmeCalls(String readme) {
        this.readme = readme;
    }

    public static void main(String[] args) throws IOException {
        ReadmeCalls calls = new ReadmeCalls(Files.readString(README));
        calls.addBlocks();
        calls.addRowsOfTexts();
        calls.addWhatMustBeShown();
        System.out.println("public final class ReadmeTest {\npublic static void main(String[] args) {");
        System.out.println(calls.source + "Check.finish();\n}\n}");
    }

    private void addBlocks() {
        Matcher block = BLOCK.matcher(readme);
        while (block.find()) {
            block.group(1).lines().forEach(this::addLine);
        }
    }

    private void addLine(String line) {
        Matcher answered = ANSWERED.matcher(line);
        if (!answered.matches()) {
            source.append(line).append('\n');
            if (line.startsWith("canyon.")) {
                add("ReadmeCalls.hasNoAnswer(%s);", quoted(line));
            }
            return;
        }
        String call = answered.group(1);
        add("ReadmeCalls.answers(%s, %s, () -> %s);", quoted(call), quoted(answered.group(2)), call);
        Matcher written = LINE_WRITTEN.matcher(answered.group(3) == null ? "" : answered.group(3));
        if (written.find()) {
            add("ReadmeCalls.writes(%s, %s, canyon);", quoted(call), quoted(written.group(1)));
        }
        Matcher name = NAME.matcher(call);
        if (name.find()) {
            methodsShown.add(name.group(1));
        }
    }

    private void addRowsOfTexts() {
        add("EchoCanyon texts = new EchoCanyon();");
        add("EchoCanyon orders = new EchoCanyon();");
        Matcher row = ROW_OF_TEXT.matcher(readme);
        while (row.find()) {
            String text = row.group(1);
            add("ReadmeCalls.doTheSame(%s, texts, orders, some -> some.%s);", quoted(text), row.group(2));
            commandsShown.add(text.substring(0, 1));
        }
    }

    private void addWhatMustBeShown() {
        Set<String> methods = new TreeSet<>();
        for (Method method : EchoCanyon.class.getDeclaredMethods()) {
            if (Modifier.isPublic(method.getModifiers())) {
                methods.add(method.getName());
            }
        }
        methodsShown.retainAll(methods);
        add("Check.due(%s, %s, %s);", quoted("README.md shows"), quoted(methods.toString()),
                quoted(methodsShown.toString()));
        add("Check.due(%s, %s, %s);", quoted("README.md shows texts with"), quoted("[b, c, m, o, p, s, v, w]"),
                quoted(commandsShown.toString()));
    }

    private void add(String form, Object... parts) {
        source.append(String.format(form, parts)).append('\n');
    }

    private static String quoted(String text) {
        return "\"" + text.replace("\\", "\\\\").replace("\"", "\\\"") + "\"";
    }

    static void hasNoAnswer(String line) {
        Check.fail("README.md shows no answer: " + line);
    }

    static void answers(String call, String due, Supplier<Object> made) {
        String got;
        try {
            Object answer = made.get();
            got = answer instanceof Character ? "'" + answer + "'" : answer.toString();
        } catch (RuntimeException thrown) {
            got = "throws " + thrown.getClass().getSimpleName();
        }
        Check.due("README.md, " + call, due, got);
    }

    static void writes(String call, String due, EchoCanyon canyon) {
        Check.due("README.md, line of " + call, due, Check.lineOf(canyon));
    }

    /** A text on one canyon and an order on another that is alike must do the same. */
    static void doTheSame(String text, EchoCanyon texts, EchoCanyon orders, Consumer<EchoCanyon> order) {
        String before = Check.stateOf(orders);
        Check.due("README.md, " + text, 1, Check.run(texts, text));
        order.accept(orders);
        Check.due("README.md, after " + text, Check.stateOf(orders), Check.stateOf(texts));
        Check.due("README.md, " + text + " changes nothing", false, before.equals(Check.stateOf(orders)));
    }
}
