import java.io.IOException;
import java.nio.file.Files;
import java.nio.file.Path;
import java.util.ArrayList;
import java.util.HashSet;
import java.util.List;
import java.util.Map;
import java.util.Set;
import java.util.TreeMap;
import java.util.regex.Matcher;
import java.util.regex.Pattern;
import java.util.stream.Stream;

/**
 * The sentences of the document that tests stand for: a test names its sentence in its comment, between quotation marks,
 * with the number of the promise ahead of it if it is one of a promise. Each sentence of "Terms" and each line "Throws"
 * must have a test, each promise one or more, and no test may name a sentence that the document does not have.
 */
public final class SentencesTest {
    private static final Path DOCUMENT = Path.of("../shared/DOC.md");
    private static final Path TESTS = Path.of("src/test/java");
    private static final Pattern NAMED = Pattern.compile(
            "(?s)/\\*\\*\\s*(?:(\\d+): )?\"(.*?)\"\\s*\\*/\\s*private static void (\\w+)\\(");
    private static final Map<String, String> SECTIONS = new TreeMap<>();
    private static final Set<String> TESTED = new HashSet<>();

    public static void main(String[] args) throws IOException {
        readSections();
        try (Stream<Path> files = Files.list(TESTS)) {
            for (Path file : files.sorted().toList()) {
                namedSentencesAreThere(file);
            }
        }
        int sentences = sentencesOfTermsAreTested() + throwsAreTested();
        promisesAreTested();
        Check.due("sentences found", true, sentences > 95);
        Check.finish();
    }

    private static String flat(String text) {
        return text.strip().replaceAll("\\s+", " ");
    }

    /** The document's sections by their titles; a promise's by its number. */
    private static void readSections() throws IOException {
        for (String section : Files.readString(DOCUMENT).split("\n## ")) {
            String title = section.substring(0, section.indexOf('\n'));
            Matcher promise = Pattern.compile("Promise (\\d+): .*").matcher(title);
            SECTIONS.put(promise.matches() ? promise.group(1) : title, section.substring(title.length()));
        }
    }

    private static void namedSentencesAreThere(Path file) throws IOException {
        String source = Files.readString(file);
        Matcher named = NAMED.matcher(source);
        while (named.find()) {
            String promise = named.group(1) == null ? "Terms" : named.group(1);
            String sentence = flat(named.group(2).replaceAll("\n\\s*\\*", "\n"));
            String where = file.getFileName() + ", " + named.group(3);
            Check.due(where + ": " + sentence, true, flat(SECTIONS.getOrDefault(promise, "")).contains(sentence));
            boolean isCalled = source.contains("        " + named.group(3) + "();\n");
            Check.due(where + " is called", true, isCalled);
            TESTED.add(promise + " " + sentence);
        }
    }

    private static int sentencesOfTermsAreTested() {
        List<String> sentences = new ArrayList<>();
        for (String paragraph : SECTIONS.get("Terms").split("\n\n+")) {
            for (String sentence : flat(paragraph).split("(?<=\\.) (?=[A-Z])")) {
                if (sentence.contains(" ")) {
                    sentences.add(sentence);
                }
            }
        }
        for (String sentence : sentences) {
            Check.due("tested: " + sentence, true, TESTED.contains("Terms " + sentence));
        }
        return sentences.size();
    }

    private static int throwsAreTested() {
        int count = 0;
        for (int promise = 1; promise <= 42; promise++) {
            for (String paragraph : SECTIONS.get("" + promise).split("\n\n+")) {
                String line = flat(paragraph);
                if (line.startsWith("Throws ")) {
                    count++;
                    Check.due("tested: " + promise + " " + line, true, TESTED.contains(promise + " " + line));
                }
            }
        }
        return count;
    }

    private static void promisesAreTested() {
        for (int promise = 1; promise <= 42; promise++) {
            String number = promise + " ";
            boolean isTested = TESTED.stream().anyMatch(sentence -> sentence.startsWith(number));
            Check.due("promise " + promise + " is tested", true, isTested);
        }
    }
}
