/** The boundary cases of the promises 29 to 33: the filters. */
final class BoundaryFilters {
    private static final int[] ATTRIBUTES = {1, 5, 6, 7, 8, 9, 10, 11};

    /** A chain of nodes of the ranks 0 to 4. The nodes 2 and 3 have a hole, where the 1 is. */
    private static final String CHAIN = "000000/022220/023430/023130/023330/000000";

    private BoundaryFilters() {
    }

    static void all() {
        verdict();
        verdictOfARoot();
        verdictByRules();
        filtered();
        filteredByRules();
        loss();
        filter();
        filterIsAStep();
        threshold();
        thresholdAtTheBound();
        eachThreshold();
    }

    private static void verdict() {
        Bounds.says(29, "Throws IndexOutOfBoundsException if the node does not exist");
        Bounds.noNode("verdict(#, 1, 0, 0)", (tree, node) -> tree.verdict(node, 1, 0, 0));
        Bounds.says(29, "Throws IllegalArgumentException if attribute, threshold or rule is out of range");
        Bounds.noFilterAttribute("verdict(0, #, 0, 0)", (tree, number) -> tree.verdict(0, number, 0, 0));
        Bounds.noArgument("verdict(0, 1, #, 0)", 0, 999, (tree, number) -> tree.verdict(0, 1, number, 0));
        Bounds.noArgument("verdict(0, 1, 0, #)", 0, 3, (tree, number) -> tree.verdict(0, 1, 0, number));
        Bounds.says(29, "If several exceptions apply, the one that is named first in the throws clause is thrown.");
        Bounds.noNode("verdict(#, 2, 0, 0)", (tree, node) -> tree.verdict(node, 2, 0, 0));
        Bounds.noNode("verdict(#, 1, 1000, 0)", (tree, node) -> tree.verdict(node, 1, 1000, 0));
        Bounds.noNode("verdict(#, 1, 0, 4)", (tree, node) -> tree.verdict(node, 1, 0, 4));
        Bounds.says(29, "A filter has an attribute (1, or 5 to 11), a threshold, and a rule from 0 to 3.");
        Bounds.says(29, "1, or 5 to 11");
        Bounds.says(29, "0 to 3");
        Bounds.says(29, "the threshold, 0 to 999");
        ComponentTree tree = Bounds.treeOf(CHAIN);
        for (int attribute : ATTRIBUTES) {
            for (int rule = 0; rule <= 3; rule++) {
                String call = attribute + ", .., " + rule;
                Bounds.same("the threshold 0 of a leaf, " + call, tree.verdict(4, attribute, 0, rule), 3);
                Bounds.same("the threshold 999 of a leaf, " + call, tree.verdict(4, attribute, 999, rule), 0);
                Bounds.same("the threshold 999 of the node 1, " + call, tree.verdict(1, attribute, 999, rule), 0);
            }
        }
        Bounds.says(29, "A node passes if its attribute is at least the threshold.");
        for (int attribute : ATTRIBUTES) {
            for (int node = 0; node < 5; node++) {
                int value = tree.attribute(node, attribute);
                Bounds.same("just the threshold", tree.verdict(node, attribute, value, 0), 3);
                Bounds.same("one more", tree.verdict(node, attribute, value + 1, 0), node == 0 ? 1 : 0);
            }
        }
        Bounds.changesNothing("verdict(0, 1, 999, 1)", same -> same.verdict(0, 1, 999, 1));
    }

    private static void verdictOfARoot() {
        Bounds.says(29, "The root always remains.");
        for (Bounds.State state : Bounds.State.values()) {
            ComponentTree tree = state.make();
            for (int attribute : ATTRIBUTES) {
                for (int rule = 0; rule <= 3; rule++) {
                    Bounds.same("the root, " + state, tree.verdict(0, attribute, 999, rule), 1);
                    Bounds.same("the root that passes, " + state, tree.verdict(0, attribute, 0, rule), 3);
                }
            }
        }
    }

    private static void verdicts(int rule, int... due) {
        ComponentTree tree = Bounds.treeOf(CHAIN);
        for (int node = 0; node < due.length; node++) {
            Bounds.same("verdict(" + node + ", 10, 1, " + rule + ")", tree.verdict(node, 10, 1, rule), due[node]);
        }
    }

    private static void verdictByRules() {
        Bounds.says(29, "Tells whether a node passes and remains in a filter.");
        Bounds.says(29, "Returns 2 if it passes, otherwise 0, plus 1 if it remains.");
        Bounds.says(29, "by rule 0 (direct): those that pass;");
        verdicts(0, 1, 0, 3, 3, 0);
        Bounds.says(29, "by rule 1 (strict): those that pass, and all of whose ancestors except the root pass;");
        verdicts(1, 1, 0, 2, 2, 0);
        ComponentTree ring = Bounds.treeOf("00000/01110/01010/01110/00000");
        Bounds.same("a root that does not pass is left aside", ring.verdict(1, 10, 1, 1), 3);
        Bounds.says(29, "by rule 2 (lenient): those that pass, and those with a node below them that passes;");
        verdicts(2, 1, 1, 3, 3, 0);
        Bounds.says(29, "by rule 3 (subtractive): those that pass.");
        verdicts(3, 1, 0, 3, 3, 0);
    }

    private static void filtered() {
        Bounds.says(30, "Throws IndexOutOfBoundsException if the pixel does not exist");
        Bounds.noPixel("filtered(#, 1, 0, 0)", (tree, pixel) -> tree.filtered(pixel, 1, 0, 0));
        Bounds.says(30, "Throws IllegalArgumentException if attribute, threshold or rule is out of range");
        Bounds.noFilterAttribute("filtered(0, #, 0, 0)", (tree, number) -> tree.filtered(0, number, 0, 0));
        Bounds.noArgument("filtered(0, 1, #, 0)", 0, 999, (tree, number) -> tree.filtered(0, 1, number, 0));
        Bounds.noArgument("filtered(0, 1, 0, #)", 0, 3, (tree, number) -> tree.filtered(0, 1, 0, number));
        Bounds.says(30, "If several exceptions apply, the one that is named first in the throws clause is thrown.");
        Bounds.noPixel("filtered(#, 4, 0, 0)", (tree, pixel) -> tree.filtered(pixel, 4, 0, 0));
        Bounds.noPixel("filtered(#, 1, -1, 0)", (tree, pixel) -> tree.filtered(pixel, 1, -1, 0));
        Bounds.noPixel("filtered(#, 1, 0, -1)", (tree, pixel) -> tree.filtered(pixel, 1, 0, -1));
        Bounds.says(30, "Nothing is changed.");
        Bounds.changesNothing("filtered(0, 1, 999, 0)", tree -> tree.filtered(0, 1, 999, 0));
        Bounds.changesNothing("filtered(0, 6, 3, 3)", tree -> tree.filtered(0, 6, 3, 3));
        Bounds.says(30, "1, or 5 to 11");
        Bounds.says(30, "0 to 3");
        Bounds.says(30, "the threshold, 0 to 999");
        for (int attribute : ATTRIBUTES) {
            for (int rule = 0; rule <= 3; rule++) {
                filteredOf(attribute, rule);
            }
        }
    }

    private static void filteredOf(int attribute, int rule) {
        ComponentTree tree = Bounds.treeOf("34/5F");
        for (int pixel = 0; pixel < 4; pixel++) {
            Bounds.same("all pass: pixel " + pixel, tree.filtered(pixel, attribute, 0, rule), tree.level(pixel));
            Bounds.same("only the root remains: pixel " + pixel, tree.filtered(pixel, attribute, 999, rule), 3);
        }
        tree.setDark(true);
        for (int pixel = 0; pixel < 4; pixel++) {
            Bounds.same("all pass, dark: pixel " + pixel, tree.filtered(pixel, attribute, 0, rule), tree.level(pixel));
            Bounds.same("only the root remains, dark: pixel " + pixel, tree.filtered(pixel, attribute, 999, rule), 15);
        }
        ComponentTree largest = Bounds.State.FULL.make();
        Bounds.same("the last pixel", largest.filtered(63, attribute, 0, rule), largest.level(63));
        Bounds.same("the last pixel, to the root", largest.filtered(63, attribute, 999, rule), 0);
        Bounds.same("of a new object", new ComponentTree().filtered(0, attribute, 999, rule), 0);
    }

    private static void filteredIs(int rule, int... due) {
        ComponentTree tree = Bounds.treeOf(CHAIN);
        ComponentTree dark = Bounds.treeOf(CHAIN);
        dark.complement();
        dark.setDark(true);
        // These pixels have the ranks 4, 3, 2, 1 and 0.
        int[] pixels = {15, 14, 7, 21, 0};
        for (int index = 0; index < pixels.length; index++) {
            String call = "filtered(" + pixels[index] + ", 10, 1, " + rule + ")";
            Bounds.same(call, tree.filtered(pixels[index], 10, 1, rule), due[index]);
            Bounds.same(call + " of a dark tree", dark.filtered(pixels[index], 10, 1, rule), 15 - due[index]);
        }
    }

    private static void filteredByRules() {
        Bounds.says(30, "By rules 0 to 2 the new rank of a pixel is the rank of its node if that remains, otherwise the "
                + "rank of the nearest ancestor of that node that remains.");
        filteredIs(0, 3, 3, 2, 0, 0);
        filteredIs(1, 0, 0, 0, 0, 0);
        filteredIs(2, 3, 3, 2, 1, 0);
        Bounds.says(30, "By rule 3 it is the rank of the root, plus, for each node that remains, is not the root and "
                + "contains the pixel, its rank minus the rank of its parent.");
        filteredIs(3, 2, 2, 1, 0, 0);
        ComponentTree high = Bounds.treeOf("5555/5C55/5555");
        Bounds.same("the rank of the root alone", high.filtered(5, 1, 2, 3), 5);
        Bounds.same("the rank of the root and the step", high.filtered(5, 1, 1, 3), 12);
    }

    private static void loss() {
        Bounds.says(31, "Throws IllegalArgumentException if attribute, threshold or rule is out of range");
        Bounds.noFilterAttribute("loss(#, 0, 0)", (tree, number) -> tree.loss(number, 0, 0));
        Bounds.noArgument("loss(1, #, 0)", 0, 999, (tree, number) -> tree.loss(1, number, 0));
        Bounds.noArgument("loss(1, 0, #)", 0, 3, (tree, number) -> tree.loss(1, 0, number));
        Bounds.says(31, "Nothing is changed.");
        Bounds.changesNothing("loss(1, 999, 0)", tree -> tree.loss(1, 999, 0));
        Bounds.changesNothing("loss(6, 3, 3)", tree -> tree.loss(6, 3, 3));
        Bounds.says(31, "1, or 5 to 11");
        Bounds.says(31, "0 to 3");
        Bounds.says(31, "the threshold, 0 to 999");
        Bounds.says(31, "Returns the sum, over all pixels, of the absolute difference between the level and the new "
                + "level.");
        for (int attribute : ATTRIBUTES) {
            for (int rule = 0; rule <= 3; rule++) {
                ComponentTree tree = new ComponentTree();
                Bounds.same("of a new object", tree.loss(attribute, 999, rule), 0);
                tree.begin(8, 8);
                tree.fill(0, 63, 15);
                Bounds.same("of a flat image", tree.loss(attribute, 999, rule), 0);
                tree.setLevel(63, 0);
                Bounds.same("when all pass", tree.loss(attribute, 0, rule), 0);
                Bounds.same("the greatest one", tree.loss(attribute, 999, rule), 945);
                tree.setDark(true);
                Bounds.same("of a dark tree", tree.loss(attribute, 999, rule), 15);
            }
        }
        ComponentTree chain = Bounds.treeOf(CHAIN);
        int[] due = {2, 40, 1, 17};
        for (int rule = 0; rule <= 3; rule++) {
            Bounds.same("loss(10, 1, " + rule + ")", chain.loss(10, 1, rule), due[rule]);
        }
    }

    private static void filter() {
        Bounds.says(32, "Throws IllegalArgumentException if attribute, threshold or rule is out of range");
        Bounds.noFilterAttribute("filter(#, 999, 0)", (tree, number) -> tree.filter(number, 999, 0));
        Bounds.noArgument("filter(1, #, 0)", 0, 999, (tree, number) -> tree.filter(1, number, 0));
        Bounds.noArgument("filter(1, 999, #)", 0, 3, (tree, number) -> tree.filter(1, 999, number));
        Bounds.says(32, "1, or 5 to 11");
        Bounds.says(32, "0 to 3");
        Bounds.says(32, "the threshold, 0 to 999");
        Bounds.says(32, "Returns how many pixels got another level.");
        for (int attribute : ATTRIBUTES) {
            for (int rule = 0; rule <= 3; rule++) {
                ComponentTree tree = new ComponentTree();
                Bounds.same("of a new object", tree.filter(attribute, 999, rule), 0);
                tree.begin(8, 8);
                tree.fill(0, 63, 15);
                Bounds.same("of a flat image", tree.filter(attribute, 999, rule), 0);
                tree.setLevel(0, 0);
                Bounds.same("when all pass", tree.filter(attribute, 0, rule), 0);
                Bounds.same("the sum of the levels then", tree.count(6), 945);
                Bounds.same("the most", tree.filter(attribute, 999, rule), 63);
                Bounds.same("the sum of the levels afterwards", tree.count(6), 0);
                Bounds.same("again", tree.filter(attribute, 999, rule), 0);
            }
        }
        Bounds.says(32, "The new level follows from the new rank.");
        ComponentTree dark = Bounds.darkTreeOf("FFF/F0F/FFF");
        Bounds.same("of a dark tree", dark.filter(1, 2, 0), 1);
        Bounds.looks("the dark image", dark, "FFF/FFF/FFF");
        ComponentTree bright = Bounds.treeOf("FFF/F0F/FFF");
        Bounds.same("of a bright tree", bright.filter(1, 9, 0), 8);
        Bounds.looks("the bright image", bright, "000/000/000");
    }

    private static void filterIsAStep() {
        Bounds.says(32, "This is a step.");
        Bounds.isStep("filter(1, 0, 0)", tree -> tree.filter(1, 0, 0));
        Bounds.isStep("filter(1, 999, 1)", tree -> tree.filter(1, 999, 1));
        Bounds.isStep("filter(6, 4, 3)", tree -> tree.filter(6, 4, 3));
        Bounds.says(32, "By rules 0 to 2 the new rank of a pixel is the rank of its node if that remains, otherwise the "
                + "rank of the nearest ancestor of that node that remains.");
        String[] due = {
            "000000/022220/023330/023030/023330/000000", "000000/000000/000000/000000/000000/000000",
            "000000/022220/023330/023130/023330/000000", "000000/011110/012220/012020/012220/000000"
        };
        int[] changed = {2, 16, 1, 16};
        for (int rule = 0; rule <= 3; rule++) {
            ComponentTree tree = Bounds.treeOf(CHAIN);
            Bounds.same("filter(10, 1, " + rule + ")", tree.filter(10, 1, rule), changed[rule]);
            Bounds.looks("by the rule " + rule, tree, due[rule]);
        }
        Bounds.markersStay("filter(1, 999, 0)", tree -> tree.filter(1, 999, 0));
    }

    private static void threshold() {
        Bounds.says(33, "Throws IllegalArgumentException if attribute or bound is out of range");
        Bounds.noFilterAttribute("threshold(#, 0)", (tree, number) -> tree.threshold(number, 0));
        Bounds.noArgument("threshold(1, #)", 0, 999, (tree, number) -> tree.threshold(1, number));
        Bounds.says(33, "1, or 5 to 11");
        Bounds.says(33, "the bound, 0 to 999");
        ComponentTree tree = Bounds.treeOf(CHAIN);
        for (int attribute : ATTRIBUTES) {
            Bounds.same("the bound 999 for " + attribute, tree.threshold(attribute, 999), ComponentTree.NONE);
            int least = tree.threshold(attribute, 0);
            Bounds.same("one less than the bound 0 for " + attribute, tree.loss(attribute, least - 1, 1), 0);
            Bounds.same("the bound 0 for " + attribute, tree.loss(attribute, least, 1) > 0, true);
        }
        Bounds.changesNothing("threshold(1, 0)", same -> same.threshold(1, 0));
        Bounds.changesNothing("threshold(6, 999)", same -> same.threshold(6, 999));
    }

    private static void thresholdAtTheBound() {
        Bounds.says(33, "Returns the least threshold by which a filter with rule 1 changes the image by more than a "
                + "bound.");
        Bounds.says(33, "Returns the least threshold from 0 to 999 for which loss(attribute, threshold, 1) is greater "
                + "than bound; NONE if there is none.");
        ComponentTree largest = new ComponentTree();
        largest.begin(8, 8);
        largest.fill(0, 63, 15);
        Bounds.same("nothing to lose", largest.threshold(1, 0), ComponentTree.NONE);
        largest.setLevel(63, 0);
        Bounds.same("less than the greatest loss", largest.threshold(1, 944), 64);
        Bounds.same("just the greatest loss", largest.threshold(1, 945), ComponentTree.NONE);
        Bounds.same("less, by the volume 0 of the node", largest.threshold(6, 944), 1);
        Bounds.same("less, by the prominence 16 of the node", largest.threshold(11, 944), 17);
        Bounds.same("less, by the height 0", largest.threshold(5, 0), 1);
        Bounds.same("less, by the perimeter 32", largest.threshold(9, 0), 33);
        Bounds.same("less, by the columns", largest.threshold(7, 0), 9);
        Bounds.same("less, by the holes", largest.threshold(10, 944), 1);
        Bounds.same("of a new object", new ComponentTree().threshold(11, 0), ComponentTree.NONE);
        // The areas of the nodes are 5, 4, 3, 2 and 1, and they rise by 1, 2, 4 and 3.
        ComponentTree steps = Bounds.treeOf("0137A");
        int[] losses = {0, 0, 3, 3 + 2 * 4, 3 + 2 * 4 + 3 * 2, 3 + 2 * 4 + 3 * 2 + 4};
        for (int area = 0; area < losses.length; area++) {
            Bounds.same("loss(1, " + area + ", 1)", steps.loss(1, area, 1), losses[area]);
        }
        for (int area = 2; area < losses.length; area++) {
            Bounds.same("less than the loss", steps.threshold(1, losses[area] - 1), area);
            Bounds.same("just the loss", steps.threshold(1, losses[area]), area == 5 ? ComponentTree.NONE : area + 1);
        }
        // The nodes 2 and 3 pass by their holes, but only the strict rule takes them with the node 1.
        Bounds.same("by the strict rule", Bounds.treeOf(CHAIN).threshold(10, 39), 1);
        Bounds.same("no more by it", Bounds.treeOf(CHAIN).threshold(10, 40), ComponentTree.NONE);
        Bounds.same("less than what the leaf loses", greatVolume().threshold(6, 783), 1);
        Bounds.same("just that, so the node below it must go", greatVolume().threshold(6, 784), 785);
        Bounds.same("the greatest loss but one", greatVolume().threshold(6, 846), 785);
        Bounds.same("the greatest loss", greatVolume().threshold(6, 847), ComponentTree.NONE);
    }

    /** Without the nodes above the node 1 just its volume is lost, and with it 63 more. */
    private static void eachThreshold() {
        for (int volume = 1; volume <= 62 * 14; volume++) {
            ComponentTree tree = ofVolume(volume);
            Bounds.same("the bound " + volume, tree.threshold(6, volume), volume + 1);
            Bounds.same("one less than all", tree.threshold(6, volume + 62), volume + 1);
            Bounds.same("all", tree.threshold(6, volume + 63), ComponentTree.NONE);
        }
    }

    /** The last pixel has the rank 0; all others are a node of the rank 1 with the given volume. */
    private static ComponentTree ofVolume(int volume) {
        StringBuilder text = new StringBuilder();
        int rest = volume;
        for (int pixel = 0; pixel < 63; pixel++) {
            int rise = Math.min(14, rest);
            rest -= rise;
            text.append(pixel > 0 && pixel % 8 == 0 ? "/" : "").append("123456789ABCDEF".charAt(rise));
        }
        return Bounds.treeOf(text.append('0').toString());
    }

    /** A leaf of 56 pixels of the rank 15 on a node of 63 pixels of the rank 1: its volume is 56 * 14. */
    private static ComponentTree greatVolume() {
        ComponentTree tree = new ComponentTree();
        tree.begin(8, 8);
        tree.fill(0, 63, 1);
        tree.setLevel(0, 0);
        tree.fill(8, 63, 15);
        return tree;
    }
}
