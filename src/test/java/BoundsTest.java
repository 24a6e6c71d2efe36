import java.io.IOException;
import java.nio.file.Files;
import java.nio.file.Path;
import java.util.ArrayList;
import java.util.List;
import java.util.TreeSet;
import java.util.regex.Matcher;
import java.util.regex.Pattern;

/**
 * Runs src/test/bounds/*.txt, which go through the document sentence by sentence.
 *
 * <p>There, each section begins with a line "== Promise N: " and a sentence of the document, from that promise or from
 * the Terms; what follows are lines as Script reads them. This test also looks that each sentence of the Terms, and
 * each of a promise that names a limit, has a section, and that a section about an exception holds a call that throws
 * it and one that does not.
 */
public final class BoundsTest {
    private static final Path DOCUMENT = Path.of("../shared/DOC.md");
    private static final Path SECTIONS = Path.of("src/test/bounds");
    private static final List<String> FILES = List.of("texts", "order", "words", "rows", "shapes", "packing");
    private static final int PROMISES = 54;
    private static final Pattern HEADING = Pattern.compile("Promise (\\d+): (.*)");
    private static final Pattern LIMIT = Pattern.compile("^Throws |\\b\\d+ to \\d+\\b|a to z|1 to all|from 0|or the same"
            + "|not looked at|if there is none|in place of|which stays|empty|[Ee]mpties|goes round|divided by"
            + "|without texts|reaching into itself|how many signs it had|have another rank");
    private static final Pattern REFUSAL = Pattern.compile("^Throws `(\\w+)`");

    private final Script script = new Script("BoundsTest");
    private final String document;
    private final List<String> headings = new ArrayList<>();

    private BoundsTest(String document) {
        this.document = document;
    }

    public static void main(String[] args) throws IOException {
        BoundsTest test = new BoundsTest(Files.readString(DOCUMENT));
        for (String file : FILES) {
            String[] sections = Files.readString(SECTIONS.resolve(file + ".txt")).split("(?m)^== ");
            for (int i = 1; i < sections.length; i++) {
                test.runSection(sections[i].lines().findFirst().orElse(""), sections[i]);
            }
        }
        test.script.under("");
        test.script.expect("limits without a section", "[]", test.withoutSection().toString());
        test.script.end();
    }

    private void runSection(String heading, String section) {
        Matcher matcher = HEADING.matcher(heading);
        if (!matcher.matches()) {
            throw new IllegalArgumentException("no heading: " + heading);
        }
        int promise = Integer.parseInt(matcher.group(1));
        String sentence = matcher.group(2);
        headings.add(heading);
        script.under(heading);
        script.run(section.substring(heading.length()));
        boolean isTold = oneLine(promised(promise) + "\n" + terms()).contains(sentence);
        script.expect("whether the document says so", "true", String.valueOf(isTold));
        Matcher refusal = REFUSAL.matcher(sentence);
        if (refusal.find()) {
            expectBothSides(method(promise), refusal.group(1));
        }
    }

    private void expectBothSides(String method, String exception) {
        boolean refused = false;
        boolean answered = false;
        for (String answer : script.answers()) {
            refused |= answer.equals(method + " " + exception);
            answered |= answer.startsWith(method + " ") && !answer.endsWith("Exception");
        }
        script.expect("a call that is refused", "true", String.valueOf(refused));
        script.expect("a call that is not", "true", String.valueOf(answered));
    }

    private TreeSet<String> withoutSection() {
        TreeSet<String> missing = new TreeSet<>();
        for (int promise = 1; promise <= PROMISES; promise++) {
            String prefix = "Promise " + promise + ": ";
            if (headings.stream().noneMatch(heading -> heading.startsWith(prefix))) {
                missing.add(prefix);
            }
            for (String sentence : sentences(promise)) {
                if (LIMIT.matcher(sentence).find() && !headings.contains(prefix + sentence)) {
                    missing.add(prefix + sentence);
                }
            }
        }
        for (String sentence : sentencesOfTerms()) {
            if (headings.stream().noneMatch(heading -> heading.contains(sentence))) {
                missing.add(sentence);
            }
        }
        return missing;
    }

    private String[] sentencesOfTerms() {
        String told = oneLine(terms());
        String ruling = told.substring(told.indexOf("Part 1,"), told.indexOf("Ahead of the calls"));
        return ruling.replaceAll("Part \\d, [^.]*\\. |Exceptions\\. ", "").split("(?<=\\.) ");
    }

    /** What a promise says: of the call, of each of its arguments, of its answer, of each exception. */
    private List<String> sentences(int promise) {
        List<String> found = new ArrayList<>();
        for (String block : promised(promise).split("\n\n|\n(?=- )")) {
            found.add(oneLine(block.replaceFirst("^`\\w+ ?\\w+\\(.*`: ", "").replaceFirst("^- ", "")));
        }
        return found;
    }

    private String promised(int promise) {
        return between("\n## Promise " + promise + ": ", "\n## ");
    }

    private String method(int promise) {
        return promised(promise).lines().findFirst().orElse("");
    }

    private String terms() {
        return between("\n## Terms\n", "\n## ");
    }

    private String between(String start, String end) {
        int from = document.indexOf(start) + start.length();
        int to = document.indexOf(end, from);
        return document.substring(from, to);
    }

    private static String oneLine(String text) {
        return text.strip().replaceAll("\\s+", " ");
    }
}
