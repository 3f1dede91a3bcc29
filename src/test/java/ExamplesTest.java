/** The four examples that stand under 'Terms' in the document. */
final class ExamplesTest {
    private ExamplesTest() {
    }

    public static void main(String[] args) {
        twoPeaks();
        incompleteText();
        equalPeaks();
        oneMarker();
        Check.end();
    }

    private static void twoPeaks() {
        ComponentTree tree = new ComponentTree();
        int[] codes = {48, 53, 48, 51, 47, 48, 48, 48, 51};
        for (int index = 0; index < codes.length; index++) {
            Check.same("1: append", tree.append(codes[index]), index + 1);
        }
        Check.same("1: load()", tree.load(), 8);
        Check.same("1: count(2)", tree.count(2), 3);
        Check.same("1: count(3)", tree.count(3), 2);
        Check.same("1: prominence(2)", tree.prominence(2), 6);
        Check.same("1: loss(1, 2, 0)", tree.loss(1, 2, 0), 5);
    }

    private static void incompleteText() {
        ComponentTree tree = new ComponentTree();
        int[] codes = {49, 49, 47, 49};
        for (int index = 0; index < codes.length; index++) {
            Check.same("2: append", tree.append(codes[index]), index + 1);
        }
        Check.same("2: firstError()", tree.firstError(), 4);
        Check.badState("2: load()", () -> tree.load());
        Check.same("2: append(49)", tree.append(49), 5);
        Check.same("2: load()", tree.load(), 4);
        Check.same("2: attribute(0, 9)", tree.attribute(0, 9), 8);
    }

    private static void equalPeaks() {
        ComponentTree tree = new ComponentTree();
        Check.same("3: begin(3, 1)", tree.begin(3, 1), 1);
        Check.same("3: setLevel(0, 4)", tree.setLevel(0, 4), 0);
        Check.same("3: setLevel(2, 4)", tree.setLevel(2, 4), 0);
        Check.same("3: leaf(0)", tree.leaf(0), 1);
        Check.same("3: leaf(1)", tree.leaf(1), 2);
        Check.same("3: prominence(1)", tree.prominence(1), 5);
        Check.same("3: prominence(2)", tree.prominence(2), 4);
        Check.same("3: keepPeaks(1)", tree.keepPeaks(1), 1);
        Check.same("3: level(0)", tree.level(0), 4);
        Check.same("3: level(2)", tree.level(2), 0);
        Check.same("3: undo()", tree.undo(), 3);
        Check.same("3: suppress(4)", tree.suppress(4), 2);
        Check.same("3: count(3)", tree.count(3), 1);
    }

    private static void oneMarker() {
        ComponentTree tree = new ComponentTree();
        Check.same("4: begin(2, 2)", tree.begin(2, 2), 1);
        Check.same("4: fill(0, 3, 9)", tree.fill(0, 3, 9), 4);
        Check.same("4: setLevel(3, 12)", tree.setLevel(3, 12), 9);
        Check.same("4: setMarker(0, 10)", tree.setMarker(0, 10), 0);
        Check.same("4: reconstruct()", tree.reconstruct(), 1);
        Check.same("4: level(3)", tree.level(3), 9);
        Check.same("4: level(1)", tree.level(1), 9);
        Check.same("4: count(7)", tree.count(7), 4);
        Check.same("4: attribute(0, 3)", tree.attribute(0, 3), -1);
    }
}
