import java.io.IOException;
import java.nio.file.Files;
import java.nio.file.Path;
import java.util.ArrayList;
import java.util.Collections;
import java.util.List;
import java.util.regex.Matcher;
import java.util.regex.Pattern;
import java.util.stream.Stream;

/**
 * Each sentence of ../shared/DOC.md that promises something has a test of its own: a test names the sentence
 * that it tests word by word, and here is looked whether it stands there, and whether one is left without a test.
 */
final class SentencesTest {
    private static final Path DOCUMENT = Path.of("../shared/DOC.md"), TESTS = Path.of("src/test/java");
    private static final Pattern NAMED = Pattern.compile("\\.sentence\\(\"((?:[^\"\\\\]|\\\\.)*)\"\\)");
    private static final Due T = new Due("SentencesTest");

    public static void main(String[] args) throws IOException {
        List<String> named = named();
        List<String> parts = parts();
        T.due("parts of the document: terms 1 to 3, answers, constants, promises 1 to 31", parts.size(), 5 + 31);
        int[] stands = new int[named.size()];
        for (String part : parts) {
            look(part, named, stands);
        }
        for (int i = 0; i < stands.length; i++) {
            T.due("how often it stands in the document: " + named.get(i), stands[i], 1);
        }
        T.end();
    }

    /** The sentences that tests name. */
    private static List<String> named() throws IOException {
        List<String> named = new ArrayList<>();
        List<Path> files = new ArrayList<>();
        try (Stream<Path> all = Files.list(TESTS)) {
            all.filter(f -> f.toString().endsWith("Test.java")).forEach(files::add);
        }
        Collections.sort(files);
        for (Path file : files) {
            Matcher m = NAMED.matcher(Files.readString(file));
            while (m.find()) {
                named.add(m.group(1).replace("\\\"", "\"").replace("\\\\", "\\"));
            }
        }
        return named;
    }

    /** What the document promises, part by part, with blanks for line ends and without its signs for headings and code. */
    private static List<String> parts() throws IOException {
        String text = Files.readString(DOCUMENT);
        List<String> parts = new ArrayList<>();
        int terms = text.indexOf("## Terms");
        int answers = text.indexOf("Answers:", terms);
        int constants = text.indexOf("The constants:", answers);
        int ahead = text.indexOf("Ahead of the calls", constants);
        int promises = text.indexOf("## Promise 1:", ahead);
        int end = text.indexOf("## Not promised", promises);
        if (terms < 0 || answers < 0 || constants < 0 || ahead < 0 || promises < 0 || end < 0) {
            return parts;
        }
        Collections.addAll(parts, text.substring(terms + "## Terms".length(), answers).split("===="));
        parts.remove(0);
        parts.add(text.substring(answers, constants));
        parts.add(text.substring(constants, ahead));
        for (String promise : text.substring(promises, end).split("## Promise \\d+: [^\n]*\n")) {
            if (!promise.isBlank()) {
                parts.add(promise.replaceFirst("`[^`]*`: ", ""));
            }
        }
        parts.replaceAll(part -> part.replace("```text", " ").replace("```", " ").replaceAll("\\s+", " ").trim());
        return parts;
    }

    /** Whether all letters and digits of the part stand in sentences that are named; how often these stand in it. */
    private static void look(String part, List<String> named, int[] stands) {
        boolean[] tested = new boolean[part.length()];
        for (int i = 0; i < named.size(); i++) {
            String sentence = named.get(i);
            for (int at = part.indexOf(sentence); at >= 0; at = part.indexOf(sentence, at + 1)) {
                stands[i]++;
                for (int k = 0; k < sentence.length(); k++) {
                    tested[at + k] = true;
                }
            }
        }
        StringBuilder left = new StringBuilder();
        for (int k = 0; k < part.length(); k++) {
            if (!tested[k]) {
                left.append(part.charAt(k));
            }
        }
        T.due("a test for: " + left.toString().trim(), left.chars().noneMatch(Character::isLetterOrDigit));
    }
}
