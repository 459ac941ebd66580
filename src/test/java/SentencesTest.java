import java.io.IOException;
import java.nio.file.Files;
import java.nio.file.Path;
import java.util.ArrayList;
import java.util.BitSet;
import java.util.LinkedHashMap;
import java.util.List;
import java.util.Map;
import java.util.regex.Matcher;
import java.util.regex.Pattern;
import java.util.stream.Collectors;
import java.util.stream.Stream;

/**
 * The sentences that the tests say they hold (see Checks.sentence) stand in the document, where they say; and each
 * sentence of it with a number, a bound, something empty or an exception is held. It is run from the project's folder.
 */
public final class SentencesTest {
    private static final Path DOCUMENT = Path.of("../shared/DOC.md");
    private static final Path TESTS = Path.of("src/test/java");
    private static final Pattern PLACE = Pattern.compile("Terms|What it is|(Section|Promise) \\d+");
    private static final Pattern HOLDING = Pattern.compile("\\b(?:sentence|question)\\(\"");
    private static final Pattern LITERAL = Pattern.compile("\"((?:[^\"\\\\]|\\\\.)*)\"");
    private static final Pattern BOUNDARY = Pattern.compile(
        "\\d|\\bNONE\\b|\\b(?:at most|at least|above|below|empty|full|nothing|without|Throws)\\b");

    private final Map<String, String> textOf = new LinkedHashMap<>();
    private final Map<String, BitSet> heldOf = new LinkedHashMap<>();

    public static void main(String[] args) throws IOException {
        SentencesTest test = new SentencesTest();
        test.readDocument(Files.readString(DOCUMENT));
        List<Path> sources;
        try (Stream<Path> paths = Files.list(TESTS)) {
            sources = paths.filter(path -> path.toString().endsWith(".java")).sorted().collect(Collectors.toList());
        }
        for (Path source : sources) {
            test.readTest(source);
        }
        test.checkAllHeld();
        Checks.end();
    }

    private void readDocument(String document) {
        addPlace("What it is", between(document, "## What it is", "## The public face"));
        addPlace("Terms", between(document, "## Terms", "== 1."));
        for (int i = 1; i <= 4; i++) {
            // The numbers of headings and of items are no numbers of a sentence.
            String section = between(document, "== " + i + ".", i < 4 ? "== " + (i + 1) + "." : "## Promise 1:");
            addPlace("Section " + i, section.replaceAll("\\(\\d\\) ", ""));
        }
        for (int i = 1; i <= 30; i++) {
            String next = i < 30 ? "## Promise " + (i + 1) + ":" : "## Not promised";
            addPlace("Promise " + i, between(document, "## Promise " + i + ":", next));
        }
    }

    private static String between(String text, String from, String to) {
        int start = text.indexOf(from);
        int end = text.indexOf(to, start + 1);
        Checks.equal("the document has " + from + " ahead of " + to, start >= 0 && end > start, true);
        return text.substring(start + from.length(), end);
    }

    private void addPlace(String place, String text) {
        textOf.put(place, text.replaceAll("\\s+", " "));
        heldOf.put(place, new BitSet());
    }

    private void readTest(Path source) throws IOException {
        String joined = Files.readString(source).replaceAll("\"\\s*\\+\\s*\"", "");
        for (String statement : joined.split(";\\s*\n")) {
            if (!HOLDING.matcher(statement).find()) {
                continue;
            }
            String place = null;
            for (String literal : literals(statement)) {
                if (PLACE.matcher(literal).matches()) {
                    place = literal;
                } else if (place != null && literal.contains(" ")) {
                    hold(source, place, literal);
                }
            }
        }
    }

    private static List<String> literals(String statement) {
        List<String> literals = new ArrayList<>();
        Matcher matcher = LITERAL.matcher(statement);
        while (matcher.find()) {
            literals.add(matcher.group(1));
        }
        return literals;
    }

    private void hold(Path source, String place, String sentence) {
        String text = textOf.getOrDefault(place, "");
        int start = text.indexOf(sentence);
        Checks.equal(source.getFileName() + ": " + place + " has \"" + sentence + "\"", start >= 0, true);
        while (start >= 0) {
            heldOf.get(place).set(start, start + sentence.length());
            start = text.indexOf(sentence, start + 1);
        }
    }

    private void checkAllHeld() {
        for (String place : textOf.keySet()) {
            Matcher matcher = BOUNDARY.matcher(textOf.get(place));
            while (matcher.find()) {
                String around = textOf.get(place).substring(Math.max(0, matcher.start() - 40),
                    Math.min(textOf.get(place).length(), matcher.end() + 40));
                Checks.equal(place + ": a test holds \"" + around + "\"", heldOf.get(place).get(matcher.start()), true);
            }
        }
    }
}
