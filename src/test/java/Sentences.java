import java.io.IOException;
import java.io.UncheckedIOException;
import java.nio.file.Files;
import java.nio.file.Path;
import java.util.ArrayList;
import java.util.List;
import java.util.Set;
import java.util.TreeSet;
import java.util.regex.Matcher;
import java.util.regex.Pattern;

/**
 * The document's sentences, section by section, and which of them the tests have named: so a
 * sentence that names a boundary case and has no test is found, and a test whose sentence the
 * document does not hold any more as well.
 */
final class Sentences {
    private static final Path DOCUMENT = Path.of("../shared/DOC.md");
    private static final int TERMS = 0;
    private static final int PROMISES = 38;

    /** What makes a sentence of a promise one that names a boundary case, a range or an effect. */
    private static final Pattern EDGE = Pattern.compile(
            "Throws|\\d|NONE|possibly|Nothing|This is a step|stay|before|afterwards|none|left|how many"
            + "|[Cc]lears|length|latest|smallest|divided|from 0|absolute|nearest|changed|whether");

    /** The same for the terms, which are mostly definitions. */
    private static final Pattern EDGE_OF_TERMS = Pattern.compile(
            "\\d|NONE|always|possibly|also if|error|at most|least|lowest|oldest|equal|nothing|several|root|without");

    private final List<Set<String>> sections = new ArrayList<>();
    private final List<Set<String>> named = new ArrayList<>();

    Sentences() {
        for (int section = TERMS; section <= PROMISES; section++) {
            sections.add(new TreeSet<>());
            named.add(new TreeSet<>());
        }
        int section = -1;
        for (String line : lines()) {
            if (line.startsWith("## ")) {
                section = sectionOf(line);
            } else if (section >= TERMS && !isAside(line)) {
                addLine(section, line.trim());
            }
        }
    }

    private static List<String> lines() {
        try {
            return Files.readAllLines(DOCUMENT);
        } catch (IOException thrown) {
            throw new UncheckedIOException(thrown);
        }
    }

    private static int sectionOf(String line) {
        if (line.equals("## Terms")) {
            return TERMS;
        }
        Matcher promise = Pattern.compile("## Promise (\\d+): .*").matcher(line);
        return promise.matches() ? Integer.parseInt(promise.group(1)) : -1;
    }

    /** The examples have a test program of their own. */
    private static boolean isAside(String line) {
        return line.isBlank() || line.startsWith("```") || line.startsWith("Examples:") || line.startsWith("Ahead of")
                || line.matches("\\d\\. .*");
    }

    private void addLine(int section, String line) {
        String words = line.replaceFirst("^`[^`]*`: ", "").replaceFirst("^- `\\w+`: ", "").replace("`", "");
        for (String sentence : words.split("(?<=\\.) (?=[A-Z(])")) {
            sections.get(section).add(sentence);
        }
    }

    /** Notes that a test of a promise holds a sentence of its section, or of the terms. */
    void name(int promise, String sentence) {
        boolean own = sections.get(promise).contains(sentence);
        boolean term = sections.get(TERMS).contains(sentence);
        Check.same("the document says for promise " + promise + ": " + sentence, own || term, true);
        named.get(own ? promise : TERMS).add(sentence);
    }

    /** Each sentence that names a boundary case has been named by a test. */
    void checkAllNamed() {
        for (int section = TERMS; section <= PROMISES; section++) {
            Check.same("section " + section + " of the document has sentences", sections.get(section).isEmpty(), false);
            Pattern edge = section == TERMS ? EDGE_OF_TERMS : EDGE;
            for (String sentence : sections.get(section)) {
                if (edge.matcher(sentence).find()) {
                    Check.same("section " + section + " has a test for: " + sentence,
                            named.get(section).contains(sentence), true);
                }
            }
        }
    }
}
