import java.io.IOException;
import java.nio.file.Files;
import java.nio.file.Path;
import java.util.ArrayList;
import java.util.List;
import java.util.regex.Matcher;
import java.util.regex.Pattern;

/**
 * The four examples that stand under 'Terms' in the document: as they are read from it, and written
 * out once more, so that a fault in the reading shows.
 */
final class ExamplesTest {
    private static final Path DOCUMENT = Path.of("../shared/DOC.md");
    private static final int[] CALLS_OF_EXAMPLES = {14, 9, 13, 9};

    private ExamplesTest() {
    }

    public static void main(String[] args) throws IOException {
        asWritten();
        twoPeaks();
        incompleteText();
        equalPeaks();
        oneMarker();
        Check.end();
    }

    private static void asWritten() throws IOException {
        List<String> examples = examples();
        Check.same("the document's examples", examples.size(), CALLS_OF_EXAMPLES.length);
        for (int index = 0; index < examples.size(); index++) {
            int calls = runExample("example " + (index + 1), examples.get(index));
            Check.same("calls of example " + (index + 1), calls, CALLS_OF_EXAMPLES[index]);
        }
    }

    /** The numbered lines between the headings 'Terms' and 'Promise 1'. */
    private static List<String> examples() throws IOException {
        List<String> examples = new ArrayList<>();
        boolean inTerms = false;
        for (String line : Files.readAllLines(DOCUMENT)) {
            inTerms = line.startsWith("## ") ? line.equals("## Terms") : inTerms;
            if (inTerms && line.startsWith((examples.size() + 1) + ". ")) {
                examples.add(line);
            }
        }
        return examples;
    }

    private static int runExample(String name, String example) {
        WrittenCalls calls = new WrittenCalls();
        Matcher step = Pattern.compile("(\\w+\\([^()]*\\)) = (throws \\w+|-?\\d+)[;.]").matcher(example);
        int many = 0;
        while (step.find()) {
            Check.same(name + ": " + step.group(1), calls.answer(step.group(1)), step.group(2));
            many++;
        }
        return many;
    }

    private static void twoPeaks() {
        ComponentTree tree = new ComponentTree();
        int[] codes = {48, 53, 48, 51, 47, 48, 48, 48, 51};
        for (int index = 0; index < codes.length; index++) {
            Check.same("1: append", tree.append(codes[index]), index + 1);
        }
        Check.same("1: load()", tree.load(), 8);
        Check.same("1: count(2)", tree.count(2), 3);
        Check.same("1: count(3)", tree.count(3), 2);
        Check.same("1: prominence(2)", tree.prominence(2), 6);
        Check.same("1: loss(1, 2, 0)", tree.loss(1, 2, 0), 5);
    }

    private static void incompleteText() {
        ComponentTree tree = new ComponentTree();
        int[] codes = {49, 49, 47, 49};
        for (int index = 0; index < codes.length; index++) {
            Check.same("2: append", tree.append(codes[index]), index + 1);
        }
        Check.same("2: firstError()", tree.firstError(), 4);
        Check.badState("2: load()", () -> tree.load());
        Check.same("2: append(49)", tree.append(49), 5);
        Check.same("2: load()", tree.load(), 4);
        Check.same("2: attribute(0, 9)", tree.attribute(0, 9), 8);
    }

    private static void equalPeaks() {
        ComponentTree tree = new ComponentTree();
        Check.same("3: begin(3, 1)", tree.begin(3, 1), 1);
        Check.same("3: setLevel(0, 4)", tree.setLevel(0, 4), 0);
        Check.same("3: setLevel(2, 4)", tree.setLevel(2, 4), 0);
        Check.same("3: leaf(0)", tree.leaf(0), 1);
        Check.same("3: leaf(1)", tree.leaf(1), 2);
        Check.same("3: prominence(1)", tree.prominence(1), 5);
        Check.same("3: prominence(2)", tree.prominence(2), 4);
        Check.same("3: keepPeaks(1)", tree.keepPeaks(1), 1);
        Check.same("3: level(0)", tree.level(0), 4);
        Check.same("3: level(2)", tree.level(2), 0);
        Check.same("3: undo()", tree.undo(), 3);
        Check.same("3: suppress(4)", tree.suppress(4), 2);
        Check.same("3: count(3)", tree.count(3), 1);
    }

    private static void oneMarker() {
        ComponentTree tree = new ComponentTree();
        Check.same("4: begin(2, 2)", tree.begin(2, 2), 1);
        Check.same("4: fill(0, 3, 9)", tree.fill(0, 3, 9), 4);
        Check.same("4: setLevel(3, 12)", tree.setLevel(3, 12), 9);
        Check.same("4: setMarker(0, 10)", tree.setMarker(0, 10), 0);
        Check.same("4: reconstruct()", tree.reconstruct(), 1);
        Check.same("4: level(3)", tree.level(3), 9);
        Check.same("4: level(1)", tree.level(1), 9);
        Check.same("4: count(7)", tree.count(7), 4);
        Check.same("4: attribute(0, 3)", tree.attribute(0, 3), -1);
    }
}
