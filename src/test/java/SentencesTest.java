import java.io.IOException;
import java.nio.file.Files;
import java.nio.file.Path;
import java.util.Arrays;
import java.util.List;
import java.util.regex.Matcher;
import java.util.regex.Pattern;
import java.util.stream.Collectors;
import java.util.stream.Stream;

/** Each sentence that the tests of edges name stands in the document, and none of the document's is left without a test. */
final class SentencesTest {
    private static final Check CHECK = new Check();
    private static final Path DOCUMENT = Path.of("../shared/DOC.md");
    private static final Path TESTS = Path.of("src/test/java");
    private static final Pattern NAMED = Pattern.compile("sentence\\((\"[^\"]*\"(?:\\s*\\+\\s*\"[^\"]*\")*)\\)");
    /** Headings, and what tells how to read the rest. */
    private static final Pattern NO_PROMISE = Pattern.compile("## Terms|WANTS: a rule\\.|```(text)?|==== \\d\\.|The constants:"
            + "|In quotes is what stands there, \\[ \\] perhaps, \\* any number of times, \\| one of some\\."
            + "|## Promise \\d+: [\\w ]+ `[^`]*`:|BETTER TWINS: ");

    public static void main(String[] args) throws IOException {
        String document = Files.readString(DOCUMENT).replaceAll("\\s+", " ");
        int from = document.indexOf("## Terms");
        int to = document.indexOf("## Not promised");
        CHECK.due("the document has its terms and promises", from > 0 && to > from, true);
        boolean[] tested = new boolean[document.length()];
        for (Path test : tests()) {
            Matcher named = NAMED.matcher(Files.readString(test));
            while (named.find()) {
                String sentence = named.group(1).replaceAll("\"\\s*\\+\\s*\"", "").replace("\"", "");
                CHECK.due(test + ": \"" + sentence + "\" stands in the document", document.contains(sentence), true);
                mark(document, sentence, tested);
            }
        }
        String left = NO_PROMISE.matcher(untested(document, tested, from, to)).replaceAll(" ");
        CHECK.due("left without a test: " + left.replaceAll("\\s+", " "), left.isBlank(), true);
        CHECK.end();
    }

    private static List<Path> tests() throws IOException {
        try (Stream<Path> files = Files.list(TESTS)) {
            return files.filter(f -> f.toString().endsWith("EdgesTest.java")).sorted().collect(Collectors.toList());
        }
    }

    private static void mark(String document, String sentence, boolean[] tested) {
        for (int at = document.indexOf(sentence); at >= 0; at = document.indexOf(sentence, at + 1)) {
            Arrays.fill(tested, at, at + sentence.length(), true);
        }
    }

    private static String untested(String document, boolean[] tested, int from, int to) {
        StringBuilder left = new StringBuilder();
        for (int i = from; i < to; i++) {
            left.append(tested[i] ? ' ' : document.charAt(i));
        }
        return left.toString();
    }
}
