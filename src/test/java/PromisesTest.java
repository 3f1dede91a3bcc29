/** For each promise of the document: ordinary inputs, the edges that it names, and wrong inputs. */
final class PromisesTest {
    private static final int LEAST = Integer.MIN_VALUE;
    private static final int MOST = Integer.MAX_VALUE;

    /**
     * A ring of threes with a hole and a nine on it, and two fours beside it. The nodes: 0 the
     * image, rank 0; 1 the ring, rank 3; 2 the fours; 3 the nine.
     */
    private static final String RING = "000000/033304/030304/039300/000000";

    private PromisesTest() {
    }

    public static void main(String[] args) {
        images();
        texts();
        trees();
        filters();
        changes();
        theTreeFollowsTheImage();
        theLargestImage();
        Check.end();
    }

    private static ComponentTree treeOf(String text) {
        ComponentTree tree = new ComponentTree();
        type(tree, text);
        tree.load();
        return tree;
    }

    private static void type(ComponentTree tree, String text) {
        for (char code : text.toCharArray()) {
            tree.append(code);
        }
    }

    private static void looks(String what, ComponentTree tree, String due) {
        String digits = "0123456789ABCDEF";
        StringBuilder got = new StringBuilder();
        for (int row = 0; row < tree.count(1); row++) {
            got.append(row == 0 ? "" : "/");
            for (int column = 0; column < tree.count(0); column++) {
                got.append(digits.charAt(tree.level(row * tree.count(0) + column)));
            }
        }
        Check.same(what, got.toString(), due);
    }

    private static void attributesAre(String what, ComponentTree tree, int node, int... due) {
        for (int attribute = 0; attribute < due.length; attribute++) {
            Check.same(what + ": attribute(" + node + ", " + attribute + ")", tree.attribute(node, attribute),
                    due[attribute]);
        }
    }

    private static void images() {
        newObject();
        begin();
        setLevel();
        fill();
        complement();
        markers();
        difference();
        setDark();
        setEight();
        undo();
    }

    private static void newObject() {
        ComponentTree tree = new ComponentTree();
        Check.same("1: NONE", ComponentTree.NONE, -1);
        looks("1: the image", tree, "0");
        Check.same("1: marker(0)", tree.marker(0), 0);
        Check.badIndex("1: level(1)", () -> tree.level(1));
        int[] counts = {1, 1, 1, 1, 1, 1, 0, 0};
        for (int what = 0; what < counts.length; what++) {
            Check.same("1: count(" + what + ")", tree.count(what), counts[what]);
        }
        attributesAre("1", tree, 0, 0, 1, 1, -1, 0, 0, 0, 1, 1, 4, 0, 1);
        Check.same("1: setDark(false)", tree.setDark(false), false);
        Check.same("1: setEight(false)", tree.setEight(false), false);
        Check.same("1: clearInput()", tree.clearInput(), 0);
        Check.badState("1: undo()", () -> tree.undo());
        Check.badState("1: load()", () -> tree.load());
    }

    private static void begin() {
        ComponentTree tree = treeOf("123/456");
        tree.setMarker(4, 7);
        Check.same("2: begin(8, 8)", tree.begin(8, 8), 6);
        Check.same("2: count(0)", tree.count(0), 8);
        Check.same("2: count(1)", tree.count(1), 8);
        Check.same("2: count(6)", tree.count(6), 0);
        Check.same("2: marker(4)", tree.marker(4), 0);
        Check.same("2: count(7)", tree.count(7), 2);
        Check.badArgument("2: begin(0, 1)", () -> tree.begin(0, 1));
        Check.badArgument("2: begin(1, 0)", () -> tree.begin(1, 0));
        Check.badArgument("2: begin(9, 1)", () -> tree.begin(9, 1));
        Check.badArgument("2: begin(1, 9)", () -> tree.begin(1, 9));
        Check.badArgument("2: begin(LEAST, MOST)", () -> tree.begin(LEAST, MOST));
        Check.same("2: count(7) after wrong calls", tree.count(7), 2);
        Check.same("2: begin(1, 1)", tree.begin(1, 1), 64);
        Check.same("2: begin(2, 3)", tree.begin(2, 3), 1);
        looks("2: the image", tree, "00/00/00");
    }

    private static void setLevel() {
        ComponentTree tree = treeOf("12/34");
        Check.same("3: setLevel(2, 15)", tree.setLevel(2, 15), 3);
        Check.same("3: setLevel(2, 0)", tree.setLevel(2, 0), 15);
        Check.same("3: setLevel(2, 0)", tree.setLevel(2, 0), 0);
        looks("3: the image", tree, "12/04");
        Check.same("3: count(7)", tree.count(7), 4);
        Check.badIndex("3: setLevel(4, 0)", () -> tree.setLevel(4, 0));
        Check.badIndex("3: setLevel(-1, 16)", () -> tree.setLevel(-1, 16));
        Check.badIndex("3: setLevel(MOST, LEAST)", () -> tree.setLevel(MOST, LEAST));
        Check.badArgument("3: setLevel(0, 16)", () -> tree.setLevel(0, 16));
        Check.badArgument("3: setLevel(3, -1)", () -> tree.setLevel(3, -1));
        Check.same("3: count(7) after wrong calls", tree.count(7), 4);
        Check.same("3: the tree follows", tree.attribute(0, 0), 0);
    }

    private static void fill() {
        ComponentTree tree = treeOf("1234/1234/1234");
        Check.same("4: fill(1, 6, 3)", tree.fill(1, 6, 3), 2);
        looks("4: from the upper left", tree, "1334/1334/1234");
        Check.same("4: fill(4, 11, 0)", tree.fill(4, 11, 0), 8);
        looks("4: whole rows", tree, "1334/0000/0000");
        Check.same("4: fill(3, 6, 5)", tree.fill(3, 6, 5), 4);
        looks("4: from the upper right", tree, "1355/0055/0000");
        Check.same("4: fill(9, 0, 15)", tree.fill(9, 0, 15), 6);
        looks("4: from the lower right", tree, "FF55/FF55/FF00");
        Check.same("4: fill(8, 5, 2)", tree.fill(8, 5, 2), 4);
        looks("4: from the lower left", tree, "FF55/2255/2200");
        Check.same("4: fill(11, 11, 0)", tree.fill(11, 11, 0), 0);
        Check.same("4: count(7)", tree.count(7), 7);
        Check.badIndex("4: fill(12, 0, 16)", () -> tree.fill(12, 0, 16));
        Check.badIndex("4: fill(0, -1, 16)", () -> tree.fill(0, -1, 16));
        Check.badIndex("4: fill(-1, 0, 0)", () -> tree.fill(-1, 0, 0));
        Check.badIndex("4: fill(0, 12, 0)", () -> tree.fill(0, 12, 0));
        Check.badArgument("4: fill(0, 11, 16)", () -> tree.fill(0, 11, 16));
        Check.badArgument("4: fill(0, 11, -1)", () -> tree.fill(0, 11, -1));
        Check.same("4: count(7) after wrong calls", tree.count(7), 7);
    }

    private static void complement() {
        ComponentTree tree = treeOf("0F7/555");
        tree.setMarker(1, 9);
        Check.same("5: count(2)", tree.count(2), 4);
        Check.same("5: complement()", tree.complement(), 4);
        looks("5: the image", tree, "F08/AAA");
        Check.same("5: marker(1)", tree.marker(1), 9);
        Check.same("5: count(7)", tree.count(7), 2);
        ComponentTree peak = treeOf("131");
        Check.same("5: nodes before", peak.count(2), 2);
        Check.same("5: nodes afterwards", peak.complement(), 3);
        Check.same("5: nodes of the first image again", peak.complement(), 2);
    }

    private static void markers() {
        ComponentTree tree = treeOf("12/34");
        Check.same("6: setMarker(3, 15)", tree.setMarker(3, 15), 0);
        Check.same("6: setMarker(3, 2)", tree.setMarker(3, 2), 15);
        Check.same("6: count(7), for it is no step", tree.count(7), 1);
        Check.same("9: marker(3)", tree.marker(3), 2);
        Check.same("9: marker(0)", tree.marker(0), 0);
        Check.same("8: level(3)", tree.level(3), 4);
        Check.badIndex("6: setMarker(4, 16)", () -> tree.setMarker(4, 16));
        Check.badIndex("6: setMarker(-1, 0)", () -> tree.setMarker(-1, 0));
        Check.badArgument("6: setMarker(0, 16)", () -> tree.setMarker(0, 16));
        Check.badArgument("6: setMarker(0, -1)", () -> tree.setMarker(0, -1));
        Check.same("6: marker(0) after wrong calls", tree.marker(0), 0);
        Check.badIndex("8: level(4)", () -> tree.level(4));
        Check.badIndex("8: level(-1)", () -> tree.level(-1));
        Check.badIndex("9: marker(4)", () -> tree.marker(4));
        Check.badIndex("9: marker(LEAST)", () -> tree.marker(LEAST));
        tree.setMarker(1, 2);
        Check.same("7: markAll()", tree.markAll(), 3);
        for (int pixel = 0; pixel < 4; pixel++) {
            Check.same("7: marker(" + pixel + ")", tree.marker(pixel), pixel + 1);
        }
        Check.same("7: markAll() again", tree.markAll(), 0);
        Check.same("7: count(7), for it is no step", tree.count(7), 1);
        tree.setDark(true);
        tree.setLevel(0, 15);
        Check.same("7: markAll() of a dark tree", tree.markAll(), 1);
        Check.same("7: a marker is a level, no rank", tree.marker(0), 15);
    }

    private static void difference() {
        ComponentTree tree = treeOf("12/3F");
        Check.same("10: without markers", tree.difference(), 21);
        tree.setMarker(0, 15);
        Check.same("10: a marker above its level", tree.difference(), 34);
        tree.markAll();
        Check.same("10: all marked", tree.difference(), 0);
        tree.setDark(true);
        tree.setMarker(3, 14);
        Check.same("10: of a dark tree", tree.difference(), 1);
    }

    private static void setDark() {
        ComponentTree tree = treeOf("0F7");
        Check.same("11: nodeOf(0) of a bright tree", tree.nodeOf(0), 0);
        Check.same("11: setDark(true)", tree.setDark(true), false);
        Check.same("11: setDark(true) again", tree.setDark(true), true);
        Check.same("11: nodeOf(1) of a dark tree", tree.nodeOf(1), 0);
        Check.same("11: attribute(0, 0)", tree.attribute(0, 0), 0);
        Check.same("11: the rank of the pixel 2", tree.attribute(tree.nodeOf(2), 0), 8);
        Check.same("11: the rank of the pixel 0", tree.attribute(tree.nodeOf(0), 0), 15);
        Check.same("11: count(2)", tree.count(2), 3);
        looks("11: the image stays", tree, "0F7");
        Check.same("11: count(7), for it is no step", tree.count(7), 1);
        Check.same("11: setDark(false)", tree.setDark(false), true);
        Check.same("11: count(2) of a bright tree", tree.count(2), 3);
        Check.same("11: attribute(1, 0)", tree.attribute(1, 0), 7);
    }

    private static void setEight() {
        ComponentTree tree = treeOf("50/05");
        Check.same("12: count(2) with 4", tree.count(2), 3);
        Check.same("12: setEight(true)", tree.setEight(true), false);
        Check.same("12: count(2) with 8", tree.count(2), 2);
        Check.same("12: setEight(true) again", tree.setEight(true), true);
        Check.same("12: count(7), for it is no step", tree.count(7), 1);
        Check.same("12: setEight(false)", tree.setEight(false), true);
        Check.same("12: count(2) with 4 again", tree.count(2), 3);
        ComponentTree wrap = treeOf("00000005/50000000");
        wrap.setEight(true);
        Check.same("12: no neighbors round the edge", wrap.count(3), 2);
    }

    private static void undo() {
        ComponentTree tree = treeOf("12");
        tree.setMarker(1, 3);
        tree.begin(3, 2);
        tree.setDark(true);
        tree.setEight(true);
        Check.same("13: undo()", tree.undo(), 1);
        looks("13: the image", tree, "12");
        Check.same("13: the marker", tree.marker(1), 3);
        Check.same("13: it stays dark", tree.setDark(true), true);
        Check.same("13: it stays 8", tree.setEight(true), true);
        Check.same("13: undo() to the first image", tree.undo(), 0);
        looks("13: the first image", tree, "0");
        Check.badState("13: undo() with none kept", () -> tree.undo());
        markersSinceTheStepGo();
        onlyEightAreKept();
        eachStepCanBeTakenBack();
    }

    private static void markersSinceTheStepGo() {
        ComponentTree tree = treeOf("12");
        tree.setMarker(0, 4);
        tree.setLevel(0, 9);
        tree.setMarker(0, 5);
        tree.markAll();
        tree.undo();
        Check.same("13: the marker as it was saved", tree.marker(0), 4);
        Check.same("13: another marker as it was saved", tree.marker(1), 0);
        looks("13: the levels as they were saved", tree, "12");
    }

    private static void onlyEightAreKept() {
        ComponentTree tree = new ComponentTree();
        for (int level = 1; level <= 11; level++) {
            Check.same("13: count(7)", tree.count(7), Math.min(8, level - 1));
            tree.setLevel(0, level);
        }
        for (int left = 7; left >= 0; left--) {
            Check.same("13: undo() of eight", tree.undo(), left);
            Check.same("13: level(0)", tree.level(0), left + 3);
        }
        Check.badState("13: undo() of the discarded one", () -> tree.undo());
        Check.same("13: level(0) after the wrong call", tree.level(0), 3);
    }

    private static void eachStepCanBeTakenBack() {
        ComponentTree tree = treeOf(RING);
        Check.Call[] steps = {
            () -> tree.begin(2, 2), () -> tree.setLevel(7, 3), () -> tree.setLevel(7, 1), () -> tree.fill(0, 9, 4),
            () -> tree.complement(), () -> tree.filter(1, 9, 0), () -> tree.filter(1, 0, 0),
            () -> tree.reconstruct(), () -> tree.suppress(2), () -> tree.suppress(0), () -> tree.keepPeaks(1),
            () -> tree.keepPeaks(64)
        };
        for (Check.Call step : steps) {
            step.run();
            Check.same("13: a step is saved", tree.count(7), 2);
            Check.same("13: a step is taken back", tree.undo(), 1);
            looks("13: the image before the step", tree, RING);
        }
    }

    private static void texts() {
        append();
        firstError();
        load();
    }

    private static void append() {
        ComponentTree tree = new ComponentTree();
        Check.badArgument("14: append(31)", () -> tree.append(31));
        Check.badArgument("14: append(127)", () -> tree.append(127));
        Check.badArgument("14: append(LEAST)", () -> tree.append(LEAST));
        Check.same("14: append(32)", tree.append(32), 1);
        Check.same("14: append(126)", tree.append(126), 2);
        for (int length = 3; length <= 72; length++) {
            Check.same("14: append(48)", tree.append(48), length);
        }
        Check.badState("14: append(48) to 72", () -> tree.append(48));
        Check.badArgument("14: append(127) to 72", () -> tree.append(127));
        Check.same("15: clearInput()", tree.clearInput(), 72);
        Check.same("15: clearInput() again", tree.clearInput(), 0);
        Check.same("14: append(70)", tree.append(70), 1);
        Check.same("14: count(7), for it is no step", tree.count(7), 0);
    }

    private static void firstError() {
        String[] texts = {
            "", "0", "9", "A", "F", "G", "@", ":", "/", "a", " ", "12345678", "123456789", "12/", "12//", "12/3/",
            "12/34/5", "12/345", "1/2/3/4/5/6/7/8", "1/2/3/4/5/6/7/8/", "1/2/3/4/5/6/7/89", "1-2", "12/3G", "12/34x/",
            "12345678/12345678", "12345678/123456789", "1//2", ".1"
        };
        int[] errors = {
            0, 1, 1, 1, 1, 0, 0, 0, 0, 0, 0, 8, 8, 3, 3, 4,
            7, 5, 15, 15, 15, 1, 4, 5,
            17, 17, 2, 0
        };
        for (int index = 0; index < texts.length; index++) {
            ComponentTree tree = new ComponentTree();
            type(tree, texts[index]);
            Check.same("16: firstError() of " + texts[index], tree.firstError(), errors[index]);
            Check.same("16: it stays in the buffer", tree.clearInput(), texts[index].length());
        }
    }

    private static void load() {
        String[] wrong = {"", "G", "12/", "12/3", "12/345", "/12", "123456789", "1/2/3/4/5/6/7/8/", "1/2/3/4/5/6/7/8/9", "12/34 "};
        for (String text : wrong) {
            ComponentTree tree = new ComponentTree();
            type(tree, text);
            Check.badState("17: load() of " + text, () -> tree.load());
            Check.same("17: count(7) after a wrong call", tree.count(7), 0);
            Check.same("17: the buffer after a wrong call", tree.clearInput(), text.length());
        }
        String[] good = {"0", "F", "12345678", "1/2/3/4/5/6/7/8", "09/AF", "12345678/9ABCDEF0/12345678/9ABCDEF0/"
            + "12345678/9ABCDEF0/12345678/9ABCDEF0"};
        for (String text : good) {
            ComponentTree tree = new ComponentTree();
            tree.setMarker(0, 5);
            type(tree, text);
            Check.same("17: load() of " + text, tree.load(), text.replace("/", "").length());
            looks("17: the image of " + text, tree, text);
            Check.same("17: the markers are 0", tree.marker(0), 0);
            Check.same("17: the buffer is empty", tree.clearInput(), 0);
            Check.same("17: it is a step", tree.undo(), 0);
            Check.same("17: the marker is back", tree.marker(0), 5);
        }
    }

    private static void trees() {
        counts();
        nodesOfRing();
        attributesOfRing();
        holes();
        perimeters();
        meanRank();
        contains();
        child();
        leaves();
        component();
        meet();
        distance();
    }

    private static void counts() {
        ComponentTree tree = treeOf(RING);
        int[] counts = {6, 5, 4, 2, 3, 4, 38, 1};
        for (int what = 0; what < counts.length; what++) {
            Check.same("18: count(" + what + ")", tree.count(what), counts[what]);
        }
        Check.badArgument("18: count(-1)", () -> tree.count(-1));
        Check.badArgument("18: count(8)", () -> tree.count(8));
        Check.badArgument("18: count(LEAST)", () -> tree.count(LEAST));
        ComponentTree steps = treeOf("01234567/FEDCBA98");
        Check.same("18: a long way", steps.count(4), 16);
        Check.same("18: with one leaf", steps.count(3), 1);
        Check.same("18: all levels", steps.count(5), 16);
        Check.same("18: their sum", steps.count(6), 120);
        ComponentTree high = treeOf("75/57");
        Check.same("18: two levels above 0", high.count(5), 2);
        Check.same("18: the sum of all of them", high.count(6), 24);
        ComponentTree flat = treeOf("777/777");
        Check.same("18: one node", flat.count(2), 1);
        Check.same("18: the root is the leaf", flat.count(3), 1);
        Check.same("18: a way of one node", flat.count(4), 1);
    }

    private static void nodesOfRing() {
        ComponentTree tree = treeOf(RING);
        Check.same("19: the border", tree.nodeOf(0), 0);
        Check.same("19: the ring", tree.nodeOf(7), 1);
        Check.same("19: the hole", tree.nodeOf(14), 0);
        Check.same("19: the four", tree.nodeOf(11), 2);
        Check.same("19: the nine", tree.nodeOf(20), 3);
        tree.setLevel(14, 5);
        Check.same("19: the filled hole", tree.nodeOf(14), 3);
        Check.same("19: the nine then", tree.nodeOf(20), 4);
        Check.badIndex("19: nodeOf(-1)", () -> tree.nodeOf(-1));
        Check.badIndex("19: nodeOf(30)", () -> tree.nodeOf(30));
        ComponentTree same = treeOf("500/005/550");
        Check.same("19: equal ranks by the lowest pixel: 0", same.nodeOf(0), 1);
        Check.same("19: equal ranks by the lowest pixel: 5", same.nodeOf(5), 2);
        Check.same("19: equal ranks by the lowest pixel: 6", same.nodeOf(6), 3);
        // The node of rank 1 with the pixel 2 of rank 9 comes before the one with the pixel 3.
        ComponentTree hidden = treeOf("0091/0001/1000");
        Check.same("19: a lowest pixel that is not the node's own", hidden.nodeOf(3), 1);
        Check.same("19: the node behind it", hidden.nodeOf(8), 2);
        Check.same("19: the peak", hidden.nodeOf(2), 3);
    }

    private static void attributesOfRing() {
        ComponentTree tree = treeOf(RING);
        attributesAre("20: the root", tree, 0, 0, 30, 20, -1, 2, 9, 38, 6, 5, 22, 0, 10);
        attributesAre("20: the ring", tree, 1, 3, 8, 7, 0, 1, 6, 6, 3, 3, 16, 1, 10);
        attributesAre("20: the four", tree, 2, 4, 2, 2, 0, 0, 0, 0, 1, 2, 6, 0, 4);
        attributesAre("20: the nine", tree, 3, 9, 1, 1, 1, 0, 0, 0, 1, 1, 4, 0, 10);
        tree.setLevel(13, 5);
        attributesAre("20: the five on the ring", tree, 3, 5, 1, 1, 1, 0, 0, 0, 1, 1, 4, 0, 2);
        attributesAre("20: the ring then", tree, 1, 3, 8, 6, 0, 2, 6, 8, 3, 3, 16, 1, 10);
        Check.badIndex("20: attribute(5, 12)", () -> tree.attribute(5, 12));
        Check.badIndex("20: attribute(-1, 0)", () -> tree.attribute(-1, 0));
        Check.badArgument("20: attribute(4, 12)", () -> tree.attribute(4, 12));
        Check.badArgument("20: attribute(0, -1)", () -> tree.attribute(0, -1));
        tree.setDark(true);
        attributesAre("20: the dark root", tree, 0, 6, 30, 1, -1, 1, 9, 230, 6, 5, 22, 0, 16);
    }

    private static void holes() {
        ComponentTree open = treeOf("0000/0550/0505/0055/0000");
        open.setEight(true);
        Check.same("20: a hole closed by diagonals", open.attribute(1, 10), 1);
        open.setEight(false);
        Check.same("20: with 4, two nodes", open.count(2), 3);
        Check.same("20: the first of them has none", open.attribute(1, 10), 0);
        ComponentTree two = treeOf("55555/50555/55055/55555");
        Check.same("20: diagonal pixels are one hole with 4", two.attribute(1, 10), 1);
        two.setEight(true);
        Check.same("20: diagonal pixels are two holes with 8", two.attribute(1, 10), 2);
        ComponentTree edge = treeOf("555/505/505");
        Check.same("20: a bay is no hole", edge.attribute(1, 10), 0);
        ComponentTree left = treeOf("555/005/555");
        Check.same("20: a bay at the left is no hole", left.attribute(1, 10), 0);
        ComponentTree right = treeOf("555/500/555");
        Check.same("20: a bay at the right is no hole", right.attribute(1, 10), 0);
        ComponentTree top = treeOf("505/505/555");
        Check.same("20: a bay at the top is no hole", top.attribute(1, 10), 0);
        ComponentTree filled = treeOf("55555/50005/50805/50005/55555");
        Check.same("20: an island in a hole", filled.attribute(1, 10), 1);
        Check.same("20: the island", filled.attribute(2, 10), 0);
    }

    private static void perimeters() {
        ComponentTree cross = treeOf("050/555/050");
        Check.same("20: of a cross", cross.attribute(1, 9), 12);
        ComponentTree diagonal = treeOf("500/050/005");
        diagonal.setEight(true);
        Check.same("20: of a diagonal", diagonal.attribute(1, 9), 12);
        Check.same("20: its columns", diagonal.attribute(1, 7), 3);
        Check.same("20: its rows", diagonal.attribute(1, 8), 3);
        ComponentTree full = new ComponentTree();
        full.begin(8, 8);
        Check.same("20: of the largest image", full.attribute(0, 9), 32);
        Check.same("20: its area", full.attribute(0, 1), 64);
        full.fill(0, 63, 15);
        full.setLevel(27, 0);
        Check.same("20: the greatest volume", full.attribute(0, 6), 63 * 15);
        ComponentTree turn = treeOf("0005/5555");
        Check.same("20: no sides round the edge", turn.attribute(1, 9), 12);
    }

    private static void meanRank() {
        ComponentTree tree = treeOf(RING);
        Check.same("21: the root", tree.meanRank(0), 38.0 / 30);
        Check.same("21: the ring", tree.meanRank(1), 30.0 / 8);
        Check.same("21: the nine", tree.meanRank(3), 9.0);
        Check.badIndex("21: meanRank(4)", () -> tree.meanRank(4));
        Check.badIndex("21: meanRank(-1)", () -> tree.meanRank(-1));
        tree.setDark(true);
        Check.same("21: the dark root", tree.meanRank(0), (15 * 30 - 38) / 30.0);
    }

    private static void contains() {
        ComponentTree tree = treeOf(RING);
        Check.same("22: the ring, its pixel", tree.contains(1, 7), true);
        Check.same("22: the ring, the nine", tree.contains(1, 20), true);
        Check.same("22: the ring, its hole", tree.contains(1, 14), false);
        Check.same("22: the root, the last pixel", tree.contains(0, 29), true);
        Check.badIndex("22: contains(4, 0)", () -> tree.contains(4, 0));
        Check.badIndex("22: contains(-1, 0)", () -> tree.contains(-1, 0));
        Check.badIndex("22: contains(0, 30)", () -> tree.contains(0, 30));
        Check.badIndex("22: contains(0, -1)", () -> tree.contains(0, -1));
        ComponentTree full = new ComponentTree();
        full.begin(8, 8);
        full.setLevel(63, 1);
        Check.same("22: the pixel 63", full.contains(1, 63), true);
        Check.same("22: the pixel 31", full.contains(1, 31), false);
    }

    private static void child() {
        ComponentTree tree = treeOf("90807/00000/12321");
        Check.same("23: child(0, 0)", tree.child(0, 0), 1);
        Check.same("23: child(0, 1)", tree.child(0, 1), 4);
        Check.same("23: child(0, 2)", tree.child(0, 2), 5);
        Check.same("23: child(0, 3)", tree.child(0, 3), 6);
        Check.same("23: child(1, 0)", tree.child(1, 0), 2);
        Check.same("23: child(2, 0)", tree.child(2, 0), 3);
        Check.badIndex("23: child(0, 4)", () -> tree.child(0, 4));
        Check.badIndex("23: child(0, -1)", () -> tree.child(0, -1));
        Check.badIndex("23: child(3, 0)", () -> tree.child(3, 0));
        Check.badIndex("23: child(7, 0)", () -> tree.child(7, 0));
        Check.badIndex("23: child(-1, 0)", () -> tree.child(-1, 0));
    }

    private static void leaves() {
        // The 3 rises from the 2 beside the 4, the 4 and the second 6 from 0, the first 6 from -1.
        ComponentTree tree = treeOf("32406/11110/00006");
        int[] order = {5, 6, 4, 3};
        int[] prominences = {7, 6, 4, 1};
        Check.same("24: count(3)", tree.count(3), order.length);
        for (int index = 0; index < order.length; index++) {
            Check.same("24: leaf(" + index + ")", tree.leaf(index), order[index]);
            Check.same("25: prominence(" + order[index] + ")", tree.prominence(order[index]), prominences[index]);
        }
        Check.badIndex("24: leaf(4)", () -> tree.leaf(4));
        Check.badIndex("24: leaf(-1)", () -> tree.leaf(-1));
        Check.badState("25: prominence(0)", () -> tree.prominence(0));
        Check.badState("25: prominence(2)", () -> tree.prominence(2));
        Check.badIndex("25: prominence(7)", () -> tree.prominence(7));
        Check.badIndex("25: prominence(-1)", () -> tree.prominence(-1));
        ComponentTree tied = treeOf("40503");
        Check.same("24: the greatest first", tied.leaf(0), 3);
        Check.same("24: the least last", tied.leaf(2), 1);
        // The lower leaf 4 beside the 5 and the leaf 3 both rise by 3: the lower number comes first.
        ComponentTree equal = treeOf("5140003");
        Check.same("25: the 4 over 1", equal.prominence(3), 3);
        Check.same("25: the 3 over 0", equal.prominence(2), 3);
        Check.same("24: equal prominences by the numbers", equal.leaf(1), 2);
        Check.same("24: and the higher number behind it", equal.leaf(2), 3);
        ComponentTree hidden = treeOf("03024");
        Check.same("25: the 4 over all", hidden.prominence(3), 5);
        Check.same("25: the 3 below it", hidden.prominence(2), 3);
        Check.same("20: the prominence of the part with the 4", hidden.attribute(1, 11), 5);
        ComponentTree flat = treeOf("FF");
        Check.same("25: a root that is a leaf", flat.prominence(0), 16);
    }

    private static void component() {
        ComponentTree tree = treeOf(RING);
        Check.same("26: component(20, 0)", tree.component(20, 0), 0);
        Check.same("26: component(20, 1)", tree.component(20, 1), 1);
        Check.same("26: component(20, 3)", tree.component(20, 3), 1);
        Check.same("26: component(20, 4)", tree.component(20, 4), 3);
        Check.same("26: component(20, 9)", tree.component(20, 9), 3);
        Check.same("26: component(20, 10)", tree.component(20, 10), ComponentTree.NONE);
        Check.same("26: component(14, 1)", tree.component(14, 1), ComponentTree.NONE);
        Check.same("26: component(17, 15)", tree.component(17, 15), ComponentTree.NONE);
        Check.badIndex("26: component(30, 16)", () -> tree.component(30, 16));
        Check.badIndex("26: component(-1, 0)", () -> tree.component(-1, 0));
        Check.badArgument("26: component(0, 16)", () -> tree.component(0, 16));
        Check.badArgument("26: component(0, -1)", () -> tree.component(0, -1));
        tree.setDark(true);
        Check.same("26: of a dark tree", tree.component(0, 15), tree.nodeOf(0));
    }

    private static void meet() {
        ComponentTree tree = treeOf("32416/11110/00006");
        Check.same("27: meet(0, 1)", tree.meet(0, 1), 2);
        Check.same("27: meet(0, 2)", tree.meet(0, 2), 2);
        Check.same("27: meet(0, 4)", tree.meet(0, 4), 1);
        Check.same("27: meet(8, 2)", tree.meet(8, 2), 1);
        Check.same("27: meet(0, 14)", tree.meet(0, 14), 0);
        Check.same("27: meet(0, 0)", tree.meet(0, 0), 3);
        Check.same("27: meet(14, 14)", tree.meet(14, 14), 6);
        Check.badIndex("27: meet(15, 0)", () -> tree.meet(15, 0));
        Check.badIndex("27: meet(0, 15)", () -> tree.meet(0, 15));
        Check.badIndex("27: meet(-1, 0)", () -> tree.meet(-1, 0));
        Check.badIndex("27: meet(0, -1)", () -> tree.meet(0, -1));
    }

    private static void distance() {
        ComponentTree tree = treeOf("32410/11110/00006");
        Check.same("28: distance(3, 3)", tree.distance(3, 3), 0);
        Check.same("28: distance(3, 2)", tree.distance(3, 2), 1);
        Check.same("28: distance(0, 3)", tree.distance(0, 3), 3);
        Check.same("28: distance(3, 4)", tree.distance(3, 4), 2);
        Check.same("28: distance(1, 4)", tree.distance(1, 4), 2);
        Check.same("28: distance(5, 3)", tree.distance(5, 3), 4);
        Check.badIndex("28: distance(6, 0)", () -> tree.distance(6, 0));
        Check.badIndex("28: distance(0, 6)", () -> tree.distance(0, 6));
        Check.badIndex("28: distance(-1, 0)", () -> tree.distance(-1, 0));
        Check.badIndex("28: distance(0, -1)", () -> tree.distance(0, -1));
    }

    private static void filters() {
        verdict();
        verdictsByHoles();
        filtered();
        loss();
        filter();
        threshold();
    }

    /** A chain of nodes of the ranks 0 to 4. The nodes 2 and 3 have a hole, where the 1 is. */
    private static ComponentTree chain() {
        return treeOf("000000/022220/023430/023130/023330/000000");
    }

    private static void verdict() {
        ComponentTree tree = chain();
        Check.same("29: the area of the node 1", tree.attribute(1, 1), 16);
        Check.same("29: just the threshold", tree.verdict(1, 1, 16, 0), 3);
        Check.same("29: one more", tree.verdict(1, 1, 17, 0), 0);
        Check.same("29: the root remains", tree.verdict(0, 1, 999, 1), 1);
        Check.same("29: the root passes", tree.verdict(0, 1, 0, 1), 3);
        Check.badIndex("29: verdict(5, 2, 0, 0)", () -> tree.verdict(5, 2, 0, 0));
        Check.badIndex("29: verdict(-1, 1, 0, 0)", () -> tree.verdict(-1, 1, 0, 0));
        for (int attribute : new int[] {LEAST, -1, 0, 2, 3, 4, 12, MOST}) {
            Check.badArgument("29: attribute " + attribute, () -> tree.verdict(0, attribute, 0, 0));
            Check.badArgument("30: attribute " + attribute, () -> tree.filtered(0, attribute, 0, 0));
            Check.badArgument("31: attribute " + attribute, () -> tree.loss(attribute, 0, 0));
            Check.badArgument("32: attribute " + attribute, () -> tree.filter(attribute, 0, 0));
            Check.badArgument("33: attribute " + attribute, () -> tree.threshold(attribute, 0));
        }
        for (int threshold : new int[] {LEAST, -1, 1000, MOST}) {
            Check.badArgument("29: threshold " + threshold, () -> tree.verdict(0, 1, threshold, 0));
            Check.badArgument("30: threshold " + threshold, () -> tree.filtered(0, 1, threshold, 0));
            Check.badArgument("31: threshold " + threshold, () -> tree.loss(1, threshold, 0));
            Check.badArgument("32: threshold " + threshold, () -> tree.filter(1, threshold, 0));
            Check.badArgument("33: bound " + threshold, () -> tree.threshold(1, threshold));
        }
        for (int rule : new int[] {LEAST, -1, 4, MOST}) {
            Check.badArgument("29: rule " + rule, () -> tree.verdict(0, 1, 0, rule));
            Check.badArgument("30: rule " + rule, () -> tree.filtered(0, 1, 0, rule));
            Check.badArgument("31: rule " + rule, () -> tree.loss(1, 0, rule));
            Check.badArgument("32: rule " + rule, () -> tree.filter(1, 0, rule));
        }
        Check.same("32: no step by a wrong call", tree.count(7), 1);
        for (int attribute : new int[] {1, 5, 6, 7, 8, 9, 10, 11}) {
            Check.same("29: attribute " + attribute, tree.verdict(0, attribute, 0, 3), 3);
            Check.same("29: threshold 999", tree.verdict(0, attribute, 999, 3), 1);
        }
    }

    private static void verdictsByHoles() {
        ComponentTree tree = chain();
        int[] holes = {0, 0, 1, 1, 0};
        for (int node = 0; node < holes.length; node++) {
            Check.same("29: the holes of " + node, tree.attribute(node, 10), holes[node]);
        }
        int[][] verdicts = {{1, 0, 3, 3, 0}, {1, 0, 2, 2, 0}, {1, 1, 3, 3, 0}, {1, 0, 3, 3, 0}};
        for (int rule = 0; rule < 4; rule++) {
            for (int node = 0; node < holes.length; node++) {
                Check.same("29: verdict(" + node + ", 10, 1, " + rule + ") of the chain",
                        tree.verdict(node, 10, 1, rule), verdicts[rule][node]);
            }
        }
    }

    private static void filtered() {
        ComponentTree tree = chain();
        // The pixel 15 has the rank 4, 14 the rank 3, 7 the rank 2, 21 the rank 1, 0 the rank 0.
        int[] pixels = {15, 14, 7, 21, 0};
        int[][] due = {{3, 3, 2, 0, 0}, {0, 0, 0, 0, 0}, {3, 3, 2, 1, 0}, {2, 2, 1, 0, 0}};
        for (int rule = 0; rule < 4; rule++) {
            for (int index = 0; index < pixels.length; index++) {
                Check.same("30: filtered(" + pixels[index] + ", 10, 1, " + rule + ")",
                        tree.filtered(pixels[index], 10, 1, rule), due[rule][index]);
            }
        }
        Check.same("30: nothing is changed", tree.level(15), 4);
        Check.same("30: it is no step", tree.count(7), 1);
        Check.badIndex("30: filtered(36, 2, 0, 0)", () -> tree.filtered(36, 2, 0, 0));
        Check.badIndex("30: filtered(-1, 1, 0, 0)", () -> tree.filtered(-1, 1, 0, 0));
        tree.complement();
        tree.setDark(true);
        for (int rule = 0; rule < 4; rule++) {
            for (int index = 0; index < pixels.length; index++) {
                Check.same("30: of a dark tree, rule " + rule, tree.filtered(pixels[index], 10, 1, rule),
                        15 - due[rule][index]);
            }
        }
        ComponentTree high = treeOf("57/75");
        Check.same("30: down to the root's rank", high.filtered(1, 1, 999, 1), 5);
        Check.same("30: subtractive from the root's rank", high.filtered(1, 1, 999, 3), 5);
    }

    private static void loss() {
        ComponentTree tree = chain();
        // There are one 4, seven 3, seven 2 and one 1; see filtered for what each becomes.
        Check.same("31: direct", tree.loss(10, 1, 0), 1 + 1);
        Check.same("31: strict", tree.loss(10, 1, 1), 4 + 7 * 3 + 7 * 2 + 1);
        Check.same("31: lenient", tree.loss(10, 1, 2), 1);
        Check.same("31: subtractive", tree.loss(10, 1, 3), 2 + 7 + 7 + 1);
        Check.same("31: all pass", tree.loss(10, 0, 1), 0);
        Check.same("31: nothing is changed", tree.level(15), 4);
        Check.same("31: it is no step", tree.count(7), 1);
        ComponentTree dark = treeOf("FF0/FFF");
        dark.setDark(true);
        Check.same("31: of a dark tree", dark.loss(1, 2, 0), 15);
    }

    private static void filter() {
        String[] due = {
            "000000/022220/023330/023030/023330/000000", "000000/000000/000000/000000/000000/000000",
            "000000/022220/023330/023130/023330/000000", "000000/011110/012220/012020/012220/000000"
        };
        int[] changed = {2, 16, 1, 16};
        for (int rule = 0; rule < 4; rule++) {
            ComponentTree tree = chain();
            tree.setMarker(3, 4);
            Check.same("32: filter(10, 1, " + rule + ")", tree.filter(10, 1, rule), changed[rule]);
            looks("32: the image by the rule " + rule, tree, due[rule]);
            Check.same("32: the markers stay", tree.marker(3), 4);
            Check.same("32: it is a step", tree.count(7), 2);
            Check.same("32: the sum of the levels", tree.count(6) + chain().loss(10, 1, rule), chain().count(6));
        }
        ComponentTree dark = treeOf("FFFF/F7F2/F7FF");
        dark.setDark(true);
        Check.same("32: of a dark tree", dark.filter(1, 2, 1), 1);
        looks("32: the dark image", dark, "FFFF/F7FF/F7FF");
        Check.same("32: nothing to take away", dark.filter(1, 2, 1), 0);
        Check.same("32: it is a step all the same", dark.count(7), 3);
    }

    private static void threshold() {
        ComponentTree tree = treeOf("0503");
        Check.same("33: threshold(1, 0)", tree.threshold(1, 0), 2);
        Check.same("33: threshold(1, 7)", tree.threshold(1, 7), 2);
        Check.same("33: threshold(1, 8)", tree.threshold(1, 8), ComponentTree.NONE);
        // The prominences are 6 and 3.
        Check.same("33: threshold(11, 0)", tree.threshold(11, 0), 4);
        Check.same("33: threshold(11, 2)", tree.threshold(11, 2), 4);
        Check.same("33: threshold(11, 3)", tree.threshold(11, 3), 7);
        Check.same("33: threshold(11, 7)", tree.threshold(11, 7), 7);
        Check.same("33: threshold(11, 8)", tree.threshold(11, 8), ComponentTree.NONE);
        Check.same("33: threshold(5, 0), whose leaves have the height 0", tree.threshold(5, 0), 1);
        Check.same("33: nothing is changed", tree.level(1), 5);
        Check.same("33: it is no step", tree.count(7), 1);
        ComponentTree flat = treeOf("99");
        Check.same("33: nothing to lose", flat.threshold(1, 0), ComponentTree.NONE);
        ComponentTree large = new ComponentTree();
        large.begin(8, 8);
        large.fill(0, 63, 1);
        large.setLevel(0, 0);
        large.fill(8, 63, 15);
        large.setLevel(63, 15);
        // The node 1 has the volume 56 * 14, and the filter takes all 63 pixels of it to 0.
        Check.same("33: a great threshold", large.threshold(6, 846), 785);
        Check.same("33: the greatest loss is not more than itself", large.threshold(6, 847), ComponentTree.NONE);
        Check.same("33: threshold(1, 999)", large.threshold(1, 999), ComponentTree.NONE);
        allThresholds(chain());
        allThresholds(large);
        allThresholds(treeOf(RING));
    }

    private static void allThresholds(ComponentTree tree) {
        for (int attribute : new int[] {1, 5, 6, 7, 8, 9, 10, 11}) {
            for (int bound = 0; bound <= 999; bound += 9) {
                int due = ComponentTree.NONE;
                for (int threshold = 999; threshold >= 0; threshold--) {
                    due = tree.loss(attribute, threshold, 1) > bound ? threshold : due;
                }
                Check.same("33: threshold(" + attribute + ", " + bound + ")", tree.threshold(attribute, bound), due);
            }
        }
    }

    private static void changes() {
        reconstruct();
        suppress();
        keepPeaks();
        ifLevel();
        digest();
    }

    private static void reconstruct() {
        ComponentTree tree = treeOf("2522732");
        tree.setMarker(0, 3);
        tree.setMarker(4, 4);
        Check.same("34: reconstruct()", tree.reconstruct(), 2);
        looks("34: the image", tree, "2222432");
        Check.same("34: the markers stay", tree.marker(0), 3);
        Check.same("34: it is a step", tree.count(7), 2);
        ComponentTree none = treeOf("3435");
        Check.same("34: without markers, below the root's rank", none.reconstruct(), 4);
        looks("34: all 0", none, "0000");
        ComponentTree low = treeOf("3435");
        low.setMarker(2, 1);
        Check.same("34: a marker below the root's rank", low.reconstruct(), 4);
        looks("34: all 1", low, "1111");
        ComponentTree between = treeOf("1919");
        between.setMarker(1, 5);
        Check.same("34: a marker between two nodes' ranks", between.reconstruct(), 2);
        looks("34: its peak to 5, the other one to 1", between, "1511");
        ComponentTree above = treeOf("1919");
        above.setMarker(0, 15);
        Check.same("34: a marker above its own pixel", above.reconstruct(), 2);
        looks("34: it does not climb", above, "1111");
        ComponentTree dark = treeOf("ED9D6");
        dark.setDark(true);
        dark.markAll();
        dark.setMarker(4, 15);
        Check.same("34: of a dark tree", dark.reconstruct(), 1);
        looks("34: the dark image", dark, "ED9DD");
        ComponentTree whole = treeOf("3435");
        whole.markAll();
        Check.same("34: marked by itself", whole.reconstruct(), 0);
        Check.same("34: a step all the same", whole.count(7), 2);
    }

    private static void suppress() {
        ComponentTree tree = treeOf("2522732");
        tree.setMarker(0, 9);
        Check.same("35: suppress(3)", tree.suppress(3), 2);
        looks("35: the image", tree, "2222432");
        Check.same("35: the markers stay", tree.marker(0), 9);
        Check.same("35: it is a step", tree.count(7), 2);
        tree.undo();
        Check.same("35: suppress(2)", tree.suppress(2), 2);
        looks("35: lowered by 2", tree, "2322532");
        tree.undo();
        Check.same("35: suppress(0)", tree.suppress(0), 0);
        looks("35: nothing lowered", tree, "2522732");
        Check.same("35: suppress(15)", tree.suppress(15), 7);
        looks("35: all to rank 0", tree, "0000000");
        Check.badArgument("35: suppress(-1)", () -> tree.suppress(-1));
        Check.badArgument("35: suppress(16)", () -> tree.suppress(16));
        Check.badArgument("35: suppress(LEAST)", () -> tree.suppress(LEAST));
        Check.same("35: no step by a wrong call", tree.count(7), 3);
        ComponentTree dark = treeOf("F8FAF");
        dark.setDark(true);
        Check.same("35: of a dark tree", dark.suppress(5), 2);
        looks("35: the dark image", dark, "FDFFF");
    }

    private static void keepPeaks() {
        // The prominences of the peaks are 2, 8, 3 and 5.
        String[] due = {"11111111", "11171111", "11171116", "11171416", "13171416", "13171416"};
        int[] changed = {4, 3, 2, 1, 0, 0};
        int[] many = {0, 1, 2, 3, 4, 64};
        for (int index = 0; index < many.length; index++) {
            ComponentTree tree = treeOf("13171416");
            Check.same("36: keepPeaks(" + many[index] + ")", tree.keepPeaks(many[index]), changed[index]);
            looks("36: the image with " + many[index], tree, due[index]);
            Check.same("36: it is a step", tree.count(7), 2);
        }
        ComponentTree wrong = treeOf("121");
        Check.badArgument("36: keepPeaks(-1)", () -> wrong.keepPeaks(-1));
        Check.badArgument("36: keepPeaks(65)", () -> wrong.keepPeaks(65));
        Check.same("36: no step by a wrong call", wrong.count(7), 1);
        ComponentTree shared = treeOf("0354290");
        shared.setMarker(1, 6);
        Check.same("36: ancestors remain", shared.keepPeaks(1), 3);
        looks("36: down to the nearest one that remains", shared, "0222290");
        Check.same("36: the markers stay", shared.marker(1), 6);
        ComponentTree dark = treeOf("F2F5F");
        dark.setDark(true);
        Check.same("36: of a dark tree", dark.keepPeaks(1), 1);
        looks("36: the dark image", dark, "F2FFF");
    }

    private static void ifLevel() {
        ComponentTree tree = treeOf(RING);
        long before = tree.digest();
        Check.same("37: as it is, nodes", tree.ifLevel(0, 0, 2), 4);
        Check.same("37: as it is, leaves", tree.ifLevel(0, 0, 3), 2);
        Check.same("37: as it is, the way", tree.ifLevel(0, 0, 4), 3);
        Check.same("37: a new peak, nodes", tree.ifLevel(24, 15, 2), 5);
        Check.same("37: a new peak, leaves", tree.ifLevel(24, 15, 3), 3);
        Check.same("37: a higher step, the way", tree.ifLevel(21, 5, 4), 4);
        Check.same("37: nothing is changed", tree.digest(), before);
        Check.badIndex("37: ifLevel(30, 16, 1)", () -> tree.ifLevel(30, 16, 1));
        Check.badIndex("37: ifLevel(-1, 0, 2)", () -> tree.ifLevel(-1, 0, 2));
        Check.badArgument("37: ifLevel(0, 16, 2)", () -> tree.ifLevel(0, 16, 2));
        Check.badArgument("37: ifLevel(0, -1, 2)", () -> tree.ifLevel(0, -1, 2));
        Check.badArgument("37: ifLevel(0, 0, 1)", () -> tree.ifLevel(0, 0, 1));
        Check.badArgument("37: ifLevel(0, 0, 5)", () -> tree.ifLevel(0, 0, 5));
        ComponentTree diagonal = treeOf("50/00");
        diagonal.setEight(true);
        Check.same("37: with the connectivity 8", diagonal.ifLevel(3, 5, 2), 2);
        diagonal.setEight(false);
        Check.same("37: with the connectivity 4", diagonal.ifLevel(3, 5, 2), 3);
        ComponentTree dark = treeOf("500");
        dark.setDark(true);
        Check.same("37: of a dark tree", dark.ifLevel(1, 3, 3), 1);
        Check.same("37: of a dark tree, two peaks", dark.ifLevel(1, 7, 3), 2);
    }

    /** The same object gets image after image, and is asked for its tree between them. */
    private static void theTreeFollowsTheImage() {
        ComponentTree tree = treeOf("01234567/FEDCBA98");
        Check.same("18: the long way", tree.count(4), 16);
        tree.begin(3, 2);
        Check.same("2: one node", tree.count(2), 1);
        Check.same("2: a way of one node", tree.count(4), 1);
        Check.same("2: the leaf is the root", tree.leaf(0), 0);
        attributesAre("2", tree, 0, 0, 6, 6, -1, 0, 0, 0, 3, 2, 10, 0, 1);
        tree.fill(1, 4, 5);
        Check.same("4: the tree follows", tree.nodeOf(4), 1);
        attributesAre("4", tree, 1, 5, 2, 2, 0, 0, 0, 0, 1, 2, 6, 0, 6);
        type(tree, "7/5/7/6");
        tree.load();
        Check.same("17: the tree follows", tree.attribute(0, 0), 5);
        Check.same("17: filtered at once", tree.filtered(3, 1, 2, 3), 6);
        tree.undo();
        Check.same("13: the tree follows", tree.attribute(0, 1), 6);
        tree.undo();
        Check.same("13: and once more", tree.count(2), 1);
        tree.undo();
        Check.same("13: back to the long way", tree.ifLevel(0, 0, 4), 16);
        Check.same("36: which filtered just before", tree.verdict(15, 1, 1, 0), 3);
        Check.same("36: keepPeaks(0)", tree.keepPeaks(0), 15);
        Check.same("36: the tree follows", tree.count(2), 1);
        tree.undo();
        tree.filter(1, 10, 1);
        Check.same("32: the tree follows", tree.count(2), 7);
        tree.suppress(3);
        Check.same("35: the tree follows", tree.count(2), 4);
        tree.reconstruct();
        Check.same("34: the tree follows", tree.count(2), 1);
        ComponentTree high = treeOf("57/75");
        Check.same("30: filtered at once, by the rule 3", high.filtered(1, 1, 999, 3), 5);
        Check.same("30: filtered at once, of another one", treeOf("57/75").filtered(2, 1, 1, 2), 7);
    }

    private static void theLargestImage() {
        String rows = "12121212/21212121/12121212/21212121/12121212/21212121/12121212/2121212F";
        ComponentTree tree = treeOf(rows);
        Check.same("18: count(5)", tree.count(5), 3);
        Check.same("18: count(6)", tree.count(6), 96 + 14);
        // The root, thirty twos that stand alone, the F with the two beside it, and the F alone.
        Check.same("18: count(2)", tree.count(2), 33);
        Check.same("10: difference()", tree.difference(), 96 + 14);
        Check.same("35: suppress(1)", tree.suppress(1), 31);
        Check.same("35: the last pixel", tree.level(63), 14);
        Check.same("35: another pixel", tree.level(0), 1);
        tree.undo();
        Check.same("7: markAll()", tree.markAll(), 64);
        Check.same("34: reconstruct()", tree.reconstruct(), 0);
        Check.same("32: filter(1, 2, 0)", tree.filter(1, 2, 0), 31);
        Check.same("4: fill(63, 0, 1)", tree.fill(63, 0, 1), 3);
        tree.setEight(true);
        Check.same("5: complement()", tree.complement(), 1);
        Check.same("5: the last pixel", tree.level(63), 14);
        // All pixels but a spiral are 0: the flood goes its whole way.
        ComponentTree spiral = treeOf("55555555/00000005/55555505/50000505/50550505/50555505/50000005/55555555");
        Check.same("19: one way", spiral.count(2), 2);
        Check.same("19: its end", spiral.nodeOf(34), 1);
        ComponentTree cup = treeOf("505/505/555");
        Check.same("19: down and up again", cup.nodeOf(2), 1);
        Check.same("19: one node", cup.count(2), 2);
    }

    private static long hash(long... values) {
        long hash = 1879;
        for (long value : values) {
            hash = 31 * hash + value;
        }
        return hash;
    }

    private static void digest() {
        ComponentTree tree = new ComponentTree();
        Check.same("38: of a new object", tree.digest(), hash(0, 0, 1, 1, 1, 1, 1, 1, 0, 0, 0, 0, 0,
                0, 1, 1, -1, 0, 0, 0, 1, 1, 4, 0, 1, 0, 0, 0, 0));
        type(tree, "05");
        tree.load();
        tree.setDark(true);
        tree.setEight(true);
        tree.setMarker(1, 7);
        type(tree, "~ ");
        // The ranks are 15 and 10: the node 0 has both pixels, the node 1 the pixel 0. Losses: 5, 5.
        Check.same("38: of two pixels", tree.digest(), hash(1, 1, 2, 1, 2, 1, 2, 2, 5, 1, 0, 0, 1, 5, 7, 0,
                10, 2, 1, -1, 1, 5, 5, 2, 1, 6, 0, 16, 15, 1, 1, 0, 0, 0, 0, 1, 1, 4, 0, 16, 1, 5, 5, 2, 126, 32));
    }
}
