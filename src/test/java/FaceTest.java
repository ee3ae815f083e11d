import java.io.IOException;
import java.lang.reflect.Constructor;
import java.lang.reflect.Field;
import java.lang.reflect.Method;
import java.lang.reflect.Modifier;
import java.nio.file.Files;
import java.nio.file.Path;
import java.util.ArrayList;
import java.util.List;
import java.util.Set;
import java.util.TreeSet;
import java.util.regex.Matcher;
import java.util.regex.Pattern;

/** The public face as the document writes it, and those rules of LANGUAGE.md that a glance at the text can tell. */
public final class FaceTest {
    private static final Path SOURCE = Path.of("src/main/java/EchoCanyon.java");
    private static final Path DOCUMENT = Path.of("../shared/DOC.md");

    public static void main(String[] args) throws IOException {
        String source = withoutComments(Files.readString(SOURCE));
        faceIsAsWritten(source);
        nothingElseIsVisible();
        namesOfTheFaceAreItsOwn(source);
        staticsAreFinal();
        wordsThatAreNotThere(source);
        linesStayShort();
        Check.finish();
    }

    private static String withoutComments(String text) {
        return text.replaceAll("(?s)/\\*.*?\\*/", "").replaceAll("//[^\n]*", "");
    }

    private static List<String> signatures() throws IOException {
        String document = Files.readString(DOCUMENT);
        Matcher block = Pattern.compile("(?s)```java\n(.*?)```").matcher(document);
        List<String> signatures = new ArrayList<>();
        if (block.find()) {
            for (String line : block.group(1).split("\n")) {
                if (line.startsWith("    public ")) {
                    signatures.add(line.strip().replace(";", " {"));
                }
            }
        }
        return signatures;
    }

    private static void faceIsAsWritten(String source) throws IOException {
        String flat = source.replaceAll("\\s+", " ");
        List<String> signatures = signatures();
        Check.due("signatures", 42, signatures.size());
        for (String signature : signatures) {
            Check.due(signature, true, flat.contains(signature));
        }
        Check.due("public members", signatures.size() + 1, flat.split("\\bpublic\\b").length - 1);
    }

    private static void nothingElseIsVisible() throws IOException {
        int visible = 0;
        for (Method method : EchoCanyon.class.getDeclaredMethods()) {
            visible += isVisible(method.getModifiers(), method.isSynthetic());
        }
        for (Constructor<?> constructor : EchoCanyon.class.getDeclaredConstructors()) {
            visible += isVisible(constructor.getModifiers(), constructor.isSynthetic());
        }
        for (Field field : EchoCanyon.class.getDeclaredFields()) {
            visible += isVisible(field.getModifiers(), field.isSynthetic());
        }
        Check.due("visible members", signatures().size(), visible);
        Check.due("final", true, Modifier.isFinal(EchoCanyon.class.getModifiers()));
    }

    private static int isVisible(int modifiers, boolean isSynthetic) {
        return Modifier.isPrivate(modifiers) || isSynthetic ? 0 : 1;
    }

    private static void namesOfTheFaceAreItsOwn(String source) {
        Set<String> face = new TreeSet<>();
        for (Method method : EchoCanyon.class.getDeclaredMethods()) {
            if (Modifier.isPublic(method.getModifiers())) {
                face.add(method.getName());
            }
        }
        for (Class<?> inside : EchoCanyon.class.getDeclaredClasses()) {
            for (Method method : inside.getDeclaredMethods()) {
                Check.due(inside.getName() + "." + method.getName(), false, face.contains(method.getName()));
            }
        }
        for (Method method : EchoCanyon.class.getDeclaredMethods()) {
            boolean isOther = !Modifier.isPublic(method.getModifiers());
            Check.due(method.getName(), false, isOther && face.contains(method.getName()));
        }
    }

    private static void staticsAreFinal() {
        List<Class<?>> classes = new ArrayList<>(List.of(EchoCanyon.class.getDeclaredClasses()));
        classes.add(EchoCanyon.class);
        for (Class<?> one : classes) {
            for (Field field : one.getDeclaredFields()) {
                boolean isLoose = Modifier.isStatic(field.getModifiers()) && !Modifier.isFinal(field.getModifiers());
                Check.due(one.getName() + "." + field.getName(), false, isLoose);
            }
        }
        Check.due("some twelve classes", true, classes.size() <= 12);
    }

    private static void wordsThatAreNotThere(String source) {
        String[] words = {"->", "::", "\\btry\\b", "\\bcatch\\b", "\\bfinally\\b", "\\bsynchronized\\b", "\\bassert\\b",
            "\\binstanceof\\b", "Exact\\(", "\\bequals\\(", "\\bhashCode\\b", "\\btoString\\b", "\\bSystem\\.(?!arraycopy)",
            "import (?!java\\.util\\.NoSuchElementException;)", "\\bprotected\\b", "\"\\s*\\+", "\\+\\s*\""};
        for (String word : words) {
            Check.due(word, false, Pattern.compile(word).matcher(source).find());
        }
    }

    private static void linesStayShort() throws IOException {
        for (String line : Files.readAllLines(SOURCE)) {
            Check.due(line, true, line.length() <= 120);
        }
    }
}
