/** The boundary cases of the promises 18 to 28: what is asked about the tree. */
final class BoundaryTree {
    /** Every second pixel is a peak. */
    private static final String CHESS =
            "F0F0F0F0/0F0F0F0F/F0F0F0F0/0F0F0F0F/F0F0F0F0/0F0F0F0F/F0F0F0F0/0F0F0F0F";

    /** Two ways of sixteen nodes, which have the root alone in common: leaves 29 and 30. */
    private static final String TWO_WAYS =
            "12345678/0FEDCBA9/00000000/12345678/0FEDCBA9/00000000/00000000/00000000";

    private BoundaryTree() {
    }

    static void all() {
        count();
        countOfTheTree();
        nodeOf();
        numbers();
        attribute();
        attributesOfTheRoot();
        sizes();
        perimeter();
        holes();
        holesAndConnectivity();
        meanRank();
        contains();
        child();
        leaf();
        prominence();
        component();
        meet();
        distance();
        oldNodes();
        askingChangesNothing();
    }

    private static ComponentTree largest(int level) {
        ComponentTree tree = new ComponentTree();
        tree.begin(8, 8);
        tree.fill(0, 63, level);
        return tree;
    }

    private static void count() {
        Bounds.says(18, "Throws IllegalArgumentException if what is not 0 to 7");
        Bounds.noArgument("count(#)", 0, 7, (tree, what) -> tree.count(what));
        Bounds.says(18, "0 for the number of columns, 1 for the number of rows, 2 for the number of nodes, 3 for the "
                + "number of leaves, 4 for the greatest number of nodes on a way from the root to a leaf (both included), "
                + "5 for the number of different levels of pixels, 6 for the sum of all levels, 7 for the number of "
                + "saved images");
        ComponentTree one = new ComponentTree();
        int[] due = {1, 1, 1, 1, 1, 1, 0, 0};
        for (int what = 0; what <= 7; what++) {
            Bounds.same("count(" + what + ") of a new object", one.count(what), due[what]);
        }
        ComponentTree tree = Bounds.treeOf("123");
        Bounds.same("columns", tree.count(0), 3);
        Bounds.same("rows", tree.count(1), 1);
        ComponentTree flat = largest(15);
        int[] dueFlat = {8, 8, 1, 1, 1, 1, 960, 2};
        for (int what = 0; what <= 7; what++) {
            Bounds.same("count(" + what + ") of the largest image", flat.count(what), dueFlat[what]);
        }
        ComponentTree all = Bounds.treeOf("01234567/FEDCBA98");
        Bounds.same("all levels", all.count(5), 16);
        Bounds.same("their sum", all.count(6), 120);
        all.setDark(true);
        Bounds.same("levels of a dark tree", all.count(5), 16);
        Bounds.same("the sum is one of levels, not of ranks", Bounds.darkTreeOf("1").count(6), 1);
        Bounds.same("the levels 0 and 15", Bounds.treeOf("0F").count(5), 2);
        ComponentTree shrunk = Bounds.treeOf("1234");
        shrunk.begin(1, 1);
        Bounds.same("levels of an image that has shrunk", shrunk.count(5), 1);
        Bounds.same("their sum", shrunk.count(6), 0);
        Bounds.same("saved images of a full history", Bounds.State.FULL.make().count(7), 8);
    }

    private static void countOfTheTree() {
        ComponentTree chess = Bounds.treeOf(CHESS);
        Bounds.same("nodes with every second pixel a peak", chess.count(2), 33);
        Bounds.same("leaves of them", chess.count(3), 32);
        Bounds.same("a way of two", chess.count(4), 2);
        chess.setEight(true);
        Bounds.same("nodes with connectivity 8", chess.count(2), 2);
        Bounds.same("leaves with connectivity 8", chess.count(3), 1);
        ComponentTree ways = Bounds.treeOf(TWO_WAYS);
        Bounds.same("nodes of two ways", ways.count(2), 31);
        Bounds.same("leaves of two ways", ways.count(3), 2);
        Bounds.same("the longest way", ways.count(4), 16);
        ComponentTree deep = Bounds.treeOf("10203");
        Bounds.same("the way is one of nodes, not of ranks", deep.count(4), 2);
        Bounds.same("a way down and one that is longer", Bounds.treeOf("9001234").count(4), 5);
        Bounds.says(18, "A leaf is a node without children.");
        Bounds.same("the root of a flat image is a leaf", largest(7).count(3), 1);
        Bounds.same("of a dark flat image, too", Bounds.darkTreeOf("77").count(3), 1);
        Bounds.same("the root of two levels is none", Bounds.treeOf("78").count(3), 1);
        ComponentTree eights = Bounds.treeOf(
                "F0F0F0F0/00000000/F0F0F0F0/00000000/F0F0F0F0/00000000/F0F0F0F0/00000000");
        eights.setEight(true);
        Bounds.same("leaves that no diagonal joins", eights.count(3), 16);
    }

    private static void nodeOf() {
        Bounds.says(19, "Throws IndexOutOfBoundsException if the pixel does not exist");
        Bounds.noPixel("nodeOf(#)", (tree, pixel) -> tree.nodeOf(pixel));
        Bounds.same("nodeOf(0) of a new object", new ComponentTree().nodeOf(0), 0);
        ComponentTree chess = Bounds.treeOf(CHESS);
        Bounds.same("nodeOf(0)", chess.nodeOf(0), 1);
        Bounds.same("nodeOf(63)", chess.nodeOf(63), 32);
        Bounds.same("nodeOf(62)", chess.nodeOf(62), 0);
        Bounds.same("nodeOf(31), behind bits of the sign", chess.nodeOf(31), 16);
        Bounds.says(19, "The node of a pixel is the smallest node that contains the pixel.");
        ComponentTree ways = Bounds.treeOf(TWO_WAYS);
        Bounds.same("the end of the first way", ways.nodeOf(9), 29);
        Bounds.same("the end of the second way", ways.nodeOf(33), 30);
        Bounds.same("the start of the first way", ways.nodeOf(0), 1);
        Bounds.same("the start of the second way", ways.nodeOf(24), 2);
    }

    private static void numbers() {
        Bounds.says(19, "Nodes are numbered from 0 by their ranks, the least first, those of the same rank by their "
                + "lowest pixels.");
        ComponentTree tree = Bounds.treeOf("090/000/101");
        Bounds.same("the lower rank first", tree.nodeOf(6), 1);
        Bounds.same("the same rank behind it", tree.nodeOf(8), 2);
        Bounds.same("the greater rank last", tree.nodeOf(1), 3);
        // The lowest pixel of the first node of the rank 1 has another rank.
        ComponentTree hidden = Bounds.treeOf("0051/1000");
        Bounds.same("a lowest pixel with another rank", hidden.nodeOf(3), 1);
        Bounds.same("the node with the pixel 4", hidden.nodeOf(4), 2);
        // The node of the pixel 1 has the pixel 5 as well, the node of the pixel 2 has it alone.
        ComponentTree bent = Bounds.treeOf("0201/0101/0101");
        Bounds.same("a lowest pixel in the first row", bent.nodeOf(5), 1);
        Bounds.same("the one behind it", bent.nodeOf(3), 2);
        Bounds.says(19, "So node 0 is the root, and contains all pixels.");
        for (int level = 0; level <= 15; level++) {
            ComponentTree flat = largest(level);
            Bounds.same("the node of the first pixel", flat.nodeOf(0), 0);
            Bounds.same("the node of the last pixel", flat.nodeOf(63), 0);
            Bounds.same("the rank of the root", flat.attribute(0, 0), level);
            Bounds.same("its area", flat.attribute(0, 1), 64);
            flat.setLevel(10, 15 - level);
            Bounds.same("the area of the root of two levels", flat.attribute(0, 1), 64);
            Bounds.same("its rank", flat.attribute(0, 0), Math.min(level, 15 - level));
        }
        Bounds.says(19, "A node is a component of some rank t that contains a pixel of just the rank t; t is the rank "
                + "of the node.");
        ComponentTree gap = Bounds.treeOf("0F");
        Bounds.same("no nodes between the ranks 0 and 15", gap.count(2), 2);
        Bounds.same("the rank of the node 1", gap.attribute(1, 0), 15);
        // The rank 3 is in the left part alone, so the right part is no node of the rank 3.
        ComponentTree part = Bounds.treeOf("930079");
        Bounds.same("nodes", part.count(2), 5);
        Bounds.same("the rank of the node 2", part.attribute(2, 0), 7);
        Bounds.same("the parent of the node 2", part.attribute(2, 3), 0);
    }

    private static void attribute() {
        Bounds.says(20, "Throws IndexOutOfBoundsException if the node does not exist");
        Bounds.noNode("attribute(#, 0)", (tree, node) -> tree.attribute(node, 0));
        Bounds.noNode("attribute(#, 11)", (tree, node) -> tree.attribute(node, 11));
        Bounds.says(20, "Throws IllegalArgumentException if attribute is not 0 to 11");
        Bounds.noArgument("attribute(0, #)", 0, 11, (tree, attribute) -> tree.attribute(0, attribute));
        Bounds.says(20, "If several exceptions apply, the one that is named first in the throws clause is thrown.");
        Bounds.noNode("attribute(#, 12)", (tree, node) -> tree.attribute(node, 12));
        Bounds.noNode("attribute(#, -1)", (tree, node) -> tree.attribute(node, -1));
        Bounds.says(20, "0 to 11, see above");
        int[] due = {0, 1, 1, -1, 0, 0, 0, 1, 1, 4, 0, 1};
        ComponentTree one = new ComponentTree();
        for (int attribute = 0; attribute <= 11; attribute++) {
            Bounds.same("attribute(0, " + attribute + ") of a new object", one.attribute(0, attribute), due[attribute]);
        }
        int[] dueFlat = {15, 64, 64, -1, 0, 0, 0, 8, 8, 32, 0, 16};
        ComponentTree flat = largest(15);
        for (int attribute = 0; attribute <= 11; attribute++) {
            Bounds.same("attribute(0, " + attribute + ") of the largest image", flat.attribute(0, attribute),
                    dueFlat[attribute]);
        }
        Bounds.same("the last node of 33", Bounds.treeOf(CHESS).attribute(32, 0), 15);
    }

    private static void attributesOfTheRoot() {
        Bounds.says(20, "0 its rank");
        ComponentTree ways = Bounds.treeOf(TWO_WAYS);
        Bounds.same("of the root", ways.attribute(0, 0), 0);
        Bounds.same("of the last node", ways.attribute(30, 0), 15);
        Bounds.says(20, "1 area: the number of its pixels");
        Bounds.same("of a single pixel", ways.attribute(30, 1), 1);
        Bounds.same("of all pixels", ways.attribute(0, 1), 64);
        Bounds.says(20, "2 the number of pixels whose node it is");
        Bounds.same("of the root", ways.attribute(0, 2), 34);
        Bounds.same("of a node on the way", ways.attribute(1, 2), 1);
        Bounds.says(20, "3 the number of its parent; NONE for the root");
        Bounds.same("of the root", ways.attribute(0, 3), ComponentTree.NONE);
        Bounds.same("of the root of a flat image", largest(3).attribute(0, 3), -1);
        Bounds.same("of its children", ways.attribute(2, 3), 0);
        Bounds.same("of the last node", ways.attribute(30, 3), 28);
        Bounds.says(20, "The parent of a node that is not the root is the smallest node that it is below; the node is a "
                + "child of its parent.");
        ComponentTree chain = Bounds.treeOf("0246420");
        for (int node = 1; node <= 3; node++) {
            Bounds.same("the parent of " + node, chain.attribute(node, 3), node - 1);
            Bounds.same("the child of its parent", chain.child(node - 1, 0), node);
        }
        Bounds.says(20, "4 the number of its children");
        Bounds.same("of the root", ways.attribute(0, 4), 2);
        Bounds.same("of a leaf", ways.attribute(30, 4), 0);
        Bounds.same("of the root with the most", Bounds.treeOf(CHESS).attribute(0, 4), 32);
        Bounds.says(20, "5 height: the greatest rank of a pixel of the node, minus the rank of the node");
        Bounds.same("the greatest one", ways.attribute(0, 5), 15);
        Bounds.same("of a leaf", ways.attribute(29, 5), 0);
        Bounds.same("of one below a leaf", ways.attribute(27, 5), 1);
        Bounds.says(20, "6 volume: the sum, over all its pixels, of the rank of the pixel minus the rank of the node");
        ComponentTree deep = largest(15);
        deep.setLevel(63, 0);
        Bounds.same("the greatest one", deep.attribute(0, 6), 945);
        Bounds.same("of a leaf of many pixels", deep.attribute(1, 6), 0);
        deep.setDark(true);
        Bounds.same("of a dark tree", deep.attribute(0, 6), 15);
        Bounds.says(20, "11 the greatest prominence of a leaf that the node contains (or is)");
        Bounds.same("of a leaf", ways.attribute(29, 11), 16);
        Bounds.same("of the other leaf", ways.attribute(30, 11), 15);
        Bounds.same("of the root", ways.attribute(0, 11), 16);
        Bounds.same("of an ancestor of the other leaf", ways.attribute(2, 11), 15);
        ComponentTree inside = Bounds.treeOf("09810");
        Bounds.same("of the node with both", inside.attribute(1, 11), 10);
    }

    private static void sizes() {
        Bounds.says(20, "7 the number of columns from its leftmost to its rightmost pixel, both included");
        ComponentTree tree = Bounds.treeOf("F0000000/0FFFFFF0/0000000F");
        Bounds.same("of one pixel at the left edge", tree.attribute(1, 7), 1);
        Bounds.same("of six", tree.attribute(2, 7), 6);
        Bounds.same("of one pixel at the right edge", tree.attribute(3, 7), 1);
        tree.setEight(true);
        Bounds.same("of all, from edge to edge", tree.attribute(1, 7), 8);
        Bounds.same("of the root", tree.attribute(0, 7), 8);
        ComponentTree cup = Bounds.treeOf("F00F/FFFF");
        Bounds.same("of a cup, with the gap", cup.attribute(1, 7), 4);
        Bounds.says(20, "8 the number of rows from its uppermost to its lowermost pixel, both included");
        Bounds.same("of three rows", tree.attribute(1, 8), 3);
        tree.setEight(false);
        Bounds.same("of one row", tree.attribute(2, 8), 1);
        ComponentTree column = Bounds.treeOf("F/F/F/F/F/F/F/F");
        Bounds.same("of a column", column.attribute(0, 8), 8);
        Bounds.same("of a column, its columns", column.attribute(0, 7), 1);
        ComponentTree side = Bounds.treeOf("FF/F0/F0/FF");
        Bounds.same("of a bracket, with the gap", side.attribute(1, 8), 4);
        ComponentTree last = largest(0);
        last.fill(63, 55, 1);
        Bounds.same("at the last pixel, columns", last.attribute(1, 7), 1);
        Bounds.same("at the last pixel, rows", last.attribute(1, 8), 2);
    }

    private static void perimeter() {
        Bounds.says(20, "9 perimeter: the number of sides of its pixels (each pixel has four) behind which there is no "
                + "pixel, or a pixel that does not belong to the node");
        Bounds.same("of one pixel", new ComponentTree().attribute(0, 9), 4);
        Bounds.same("of a row", Bounds.treeOf("00000000").attribute(0, 9), 18);
        Bounds.same("of a column", Bounds.treeOf("0/0/0/0/0/0/0/0").attribute(0, 9), 18);
        Bounds.same("of the largest image", largest(0).attribute(0, 9), 32);
        Bounds.same("of a corner", Bounds.treeOf("F0/00").attribute(1, 9), 4);
        Bounds.same("of a ring, with its hole", Bounds.treeOf("FFF/F0F/FFF").attribute(1, 9), 16);
        Bounds.same("of a ring inside", Bounds.treeOf("00000/0FFF0/0F0F0/0FFF0/00000").attribute(1, 9), 16);
        Bounds.same("of two rows, not round the edge", Bounds.treeOf("000F/FFFF").attribute(1, 9), 12);
        ComponentTree chess = Bounds.treeOf(CHESS);
        chess.setEight(true);
        Bounds.same("of pixels that diagonals join", chess.attribute(1, 9), 128);
        Bounds.same("a pixel of a greater rank belongs to the node", Bounds.treeOf("0000/0570/0000").attribute(1, 9), 6);
    }

    private static void holes() {
        Bounds.says(20, "10 holes: the pixels that do not belong to the node fall into connected sets, as large as "
                + "possible, where diagonal neighbors count if the connectivity is 4, and do not count if it is 8; the "
                + "number of these sets that contain no pixel of the first or last row or column of the image");
        String[] none = {
            "FFF/F0F/F0F", "F0F/F0F/FFF", "FFF/00F/FFF", "FFF/F00/FFF", "F0F", "F/0/F", "0F/FF", "F0F/FFF", "FF/0F/FF",
            "0FF/FFF/FFF", "FF0/FFF/FFF", "FFF/FFF/0FF", "FFF/FFF/FF0"
        };
        for (String text : none) {
            Bounds.same("none with 4: " + text, Bounds.treeOf(text).attribute(1, 10), 0);
            Bounds.same("none with 8: " + text, Bounds.eightTreeOf(text).attribute(1, 10), 0);
        }
        String[] one = {"FFF/F0F/FFF", "FFFF/F00F/FFFF", "FFF/F0F/F0F/FFF", "0000/0FFF/0F0F/0FFF"};
        for (String text : one) {
            Bounds.same("one with 4: " + text, Bounds.treeOf(text).attribute(1, 10), 1);
            Bounds.same("one with 8: " + text, Bounds.eightTreeOf(text).attribute(1, 10), 1);
        }
        Bounds.same("none of all pixels", largest(5).attribute(0, 10), 0);
        Bounds.same("none of the root", Bounds.treeOf("FFF/F0F/FFF").attribute(0, 10), 0);
        Bounds.same("a pixel of a greater rank is no hole", Bounds.treeOf("0000/0FFF/0F0F/0FFF").attribute(0, 10), 0);
        Bounds.same("the most with 4", Bounds.treeOf(
                "FFFFFFFF/F0F0F0FF/FFFFFFFF/F0F0F0FF/FFFFFFFF/F0F0F0FF/FFFFFFFF/FFFFFFFF").attribute(1, 10), 9);
        Bounds.same("the most with 8", Bounds.eightTreeOf(
                "FFFFFFFF/F0F0F0FF/FF0F0F0F/F0F0F0FF/FF0F0F0F/F0F0F0FF/FF0F0F0F/FFFFFFFF").attribute(1, 10), 18);
    }

    private static void holesAndConnectivity() {
        String pair = "FFFF/F0FF/FF0F/FFFF";
        Bounds.same("a diagonal pair with 4", Bounds.treeOf(pair).attribute(1, 10), 1);
        Bounds.same("a diagonal pair with 8", Bounds.eightTreeOf(pair).attribute(1, 10), 2);
        String outlet = "0FFF/F0FF/FFFF";
        Bounds.same("a diagonal way to the border with 4", Bounds.treeOf(outlet).attribute(1, 10), 0);
        Bounds.same("a diagonal way to the border with 8", Bounds.eightTreeOf(outlet).attribute(1, 10), 1);
        String diamond = "0F0/F0F/0F0";
        Bounds.same("a diamond with 4 is four nodes", Bounds.treeOf(diamond).attribute(1, 10), 0);
        Bounds.same("a diamond with 8", Bounds.eightTreeOf(diamond).attribute(1, 10), 1);
        String nested = "FFFFF/F000F/F0F0F/F000F/FFFFF";
        Bounds.same("the island is another node", Bounds.treeOf(nested).attribute(1, 10), 1);
        Bounds.same("and has no hole", Bounds.treeOf(nested).attribute(2, 10), 0);
        Bounds.same("no way round the edge", Bounds.treeOf("FFFFFFFF/0FFFFF0F/FFFFFFFF").attribute(1, 10), 1);
        ComponentTree last = largest(15);
        last.setLevel(54, 0);
        Bounds.same("beside the last corner", last.attribute(1, 10), 1);
        ComponentTree corner = largest(15);
        corner.setLevel(63, 0);
        Bounds.same("the last corner", corner.attribute(1, 10), 0);
    }

    private static void meanRank() {
        Bounds.says(21, "Throws IndexOutOfBoundsException if the node does not exist");
        Bounds.noNode("meanRank(#)", (tree, node) -> tree.meanRank(node));
        Bounds.says(21, "Returns the sum of the ranks, as a double, divided by the area.");
        Bounds.same("of a new object", new ComponentTree().meanRank(0), 0.0);
        Bounds.same("of all 15", largest(15).meanRank(0), 15.0);
        ComponentTree almost = largest(15);
        almost.setLevel(63, 0);
        Bounds.same("of all 15 but one", almost.meanRank(0), 945.0 / 64);
        Bounds.same("of the 15 alone", almost.meanRank(1), 15.0);
        almost.setDark(true);
        Bounds.same("of a dark tree", almost.meanRank(0), 15.0 / 64);
        Bounds.same("of one pixel", Bounds.treeOf("0F").meanRank(1), 15.0);
        Bounds.same("a third", Bounds.treeOf("001").meanRank(0), 1.0 / 3);
        Bounds.same("two thirds", Bounds.treeOf("011").meanRank(0), 2.0 / 3);
    }

    private static void contains() {
        Bounds.says(22, "Throws IndexOutOfBoundsException if the node or the pixel does not exist");
        Bounds.noNode("contains(#, 0)", (tree, node) -> tree.contains(node, 0));
        Bounds.noPixel("contains(0, #)", (tree, pixel) -> tree.contains(0, pixel));
        Bounds.refuses("contains(-1, -1)", Bounds.INDEX, tree -> tree.contains(-1, -1));
        Bounds.refuses("contains(64, 64)", Bounds.INDEX, tree -> tree.contains(64, 64));
        Bounds.says(22, "Tells whether a node contains a pixel.");
        ComponentTree chess = Bounds.treeOf(CHESS);
        Bounds.same("contains(32, 63)", chess.contains(32, 63), true);
        Bounds.same("contains(32, 0)", chess.contains(32, 0), false);
        Bounds.same("contains(1, 0)", chess.contains(1, 0), true);
        Bounds.same("contains(1, 32)", chess.contains(1, 32), false);
        Bounds.same("contains(0, 63)", chess.contains(0, 63), true);
        Bounds.same("contains(0, 0) of a new object", new ComponentTree().contains(0, 0), true);
    }

    private static void child() {
        Bounds.says(23, "Throws IndexOutOfBoundsException if the node does not exist, or has no such child");
        Bounds.noNode("child(#, 0)", (tree, node) -> tree.child(node, 0));
        for (Bounds.State state : Bounds.State.values()) {
            int children = state.make().attribute(0, 4);
            for (int index : Bounds.outside(0, children - 1)) {
                Bounds.refusesIn(state, "child(0, " + index + ")", Bounds.INDEX, tree -> tree.child(0, index));
            }
        }
        ComponentTree ways = Bounds.treeOf(TWO_WAYS);
        Bounds.refuses(ways, "child of a leaf", Bounds.INDEX, tree -> tree.child(30, 0));
        Bounds.refuses(ways, "a second child of a node with one", Bounds.INDEX, tree -> tree.child(28, 1));
        Bounds.refuses(ways, "child(-1, -1)", Bounds.INDEX, tree -> tree.child(-1, -1));
        Bounds.says(23, "the index of the child, from 0, in ascending order of the numbers");
        Bounds.same("child(28, 0)", ways.child(28, 0), 30);
        Bounds.same("child(0, 1)", ways.child(0, 1), 2);
        ComponentTree chess = Bounds.treeOf(CHESS);
        for (int index = 0; index < 32; index++) {
            Bounds.same("child(0, " + index + ")", chess.child(0, index), index + 1);
        }
        // The root's children have the ranks 1 and 8: the 9 between their numbers is another one's child.
        ComponentTree mixed = Bounds.treeOf("12300/00008");
        Bounds.same("child(0, 0)", mixed.child(0, 0), 1);
        Bounds.same("child(0, 1)", mixed.child(0, 1), 4);
    }

    private static void leaf() {
        Bounds.says(24, "Throws IndexOutOfBoundsException if there is no such leaf");
        Bounds.noLeaf("leaf(#)", (tree, index) -> tree.leaf(index));
        Bounds.says(24, "the index of the leaf in the order of the leaves, from 0");
        Bounds.same("leaf(0) of a new object", new ComponentTree().leaf(0), 0);
        ComponentTree chess = Bounds.treeOf(CHESS);
        for (int index = 0; index < 32; index++) {
            Bounds.same("leaf(" + index + ") of equal ones", chess.leaf(index), index + 1);
        }
        Bounds.says(24, "The order of the leaves is by prominence, the greatest first, those of equal prominence by "
                + "their numbers, the lowest first.");
        // The 9 has the prominence 10, the 8 beside it 2, the 3 and the 2 their ranks.
        ComponentTree tree = Bounds.treeOf("96800302");
        int[] ranks = {9, 3, 2, 8};
        for (int index = 0; index < ranks.length; index++) {
            Bounds.same("the rank of leaf(" + index + ")", tree.attribute(tree.leaf(index), 0), ranks[index]);
        }
        Bounds.same("equal prominences of the ranks 2 and 8", tree.leaf(2) < tree.leaf(3), true);
        ComponentTree equal = Bounds.treeOf("20202");
        Bounds.same("leaf(0)", equal.leaf(0), 1);
        Bounds.same("leaf(1)", equal.leaf(1), 2);
        Bounds.same("leaf(2)", equal.leaf(2), 3);
    }

    private static void prominence() {
        Bounds.says(25, "Throws IndexOutOfBoundsException if the node does not exist");
        Bounds.noNode("prominence(#)", (tree, node) -> tree.prominence(node));
        Bounds.says(25, "Throws IllegalStateException if the node is not a leaf");
        Bounds.refusesIn(Bounds.State.MIDDLE, "prominence(0)", Bounds.STATE, tree -> tree.prominence(0));
        Bounds.refusesIn(Bounds.State.FULL, "prominence(0)", Bounds.STATE, tree -> tree.prominence(0));
        ComponentTree ways = Bounds.treeOf(TWO_WAYS);
        for (int node = 0; node < 29; node++) {
            int inner = node;
            Bounds.refuses(ways, "prominence(" + node + ")", Bounds.STATE, tree -> tree.prominence(inner));
        }
        Bounds.says(25, "The prominence of a leaf is its rank minus the rank of its nearest ancestor that contains a "
                + "higher leaf; for the highest leaf of all it is its rank plus 1.");
        Bounds.same("the greatest one", ways.prominence(29), 16);
        Bounds.same("of the leaf behind it", ways.prominence(30), 15);
        Bounds.same("of a new object", new ComponentTree().prominence(0), 1);
        Bounds.same("of a flat image", largest(15).prominence(0), 16);
        Bounds.same("of a dark flat image", Bounds.darkTreeOf("F").prominence(0), 1);
        Bounds.same("the highest leaf above a root of the rank 4", Bounds.treeOf("47").prominence(1), 8);
        ComponentTree small = Bounds.treeOf("FEF");
        Bounds.same("the highest one", small.prominence(1), 16);
        Bounds.same("the least one", small.prominence(2), 1);
        Bounds.says(25, "Leaves are compared like this: a leaf is higher than another one if its rank is greater, or if "
                + "the ranks are equal and its number is lower.");
        ComponentTree equal = Bounds.treeOf("707");
        Bounds.same("the lower number", equal.prominence(1), 8);
        Bounds.same("the higher number", equal.prominence(2), 7);
        ComponentTree greater = Bounds.treeOf("708");
        Bounds.same("the lower rank with the lower number", greater.prominence(1), 7);
        Bounds.same("the greater rank", greater.prominence(2), 9);
        ComponentTree byOne = Bounds.treeOf("01403");
        Bounds.same("higher by 1, on a lower node", byOne.prominence(3), 5);
        Bounds.same("lower by 1, on a higher node", byOne.prominence(2), 3);
        ComponentTree crossed = Bounds.treeOf("52015");
        Bounds.same("the lower number, on the node with the higher one", crossed.prominence(3), 6);
        Bounds.same("the higher number, on the node with the lower one", crossed.prominence(4), 5);
        // The 5 on the left is beside a 5 at the rank 4 and beside the 6 at the rank 1.
        ComponentTree nearest = Bounds.treeOf("5451600");
        Bounds.same("the first five, up to the six", nearest.prominence(nearest.nodeOf(0)), 4);
        Bounds.same("the second five, up to the first", nearest.prominence(nearest.nodeOf(2)), 1);
    }

    private static void component() {
        Bounds.says(26, "Throws IndexOutOfBoundsException if the pixel does not exist");
        Bounds.noPixel("component(#, 0)", (tree, pixel) -> tree.component(pixel, 0));
        Bounds.says(26, "Throws IllegalArgumentException if rank is not 0 to 15");
        Bounds.noArgument("component(0, #)", 0, 15, (tree, rank) -> tree.component(0, rank));
        Bounds.says(26, "If several exceptions apply, the one that is named first in the throws clause is thrown.");
        Bounds.noPixel("component(#, 16)", (tree, pixel) -> tree.component(pixel, 16));
        Bounds.noPixel("component(#, -1)", (tree, pixel) -> tree.component(pixel, -1));
        Bounds.says(26, "Returns the number of the node; NONE if the rank of the pixel is less than the given one.");
        ComponentTree one = new ComponentTree();
        Bounds.same("component(0, 0) of a new object", one.component(0, 0), 0);
        for (int rank = 1; rank <= 15; rank++) {
            Bounds.same("component(0, " + rank + ")", one.component(0, rank), ComponentTree.NONE);
        }
        Bounds.says(26, "the rank, 0 to 15");
        ComponentTree ways = Bounds.treeOf(TWO_WAYS);
        Bounds.same("component(33, 0)", ways.component(33, 0), 0);
        Bounds.same("component(33, 15)", ways.component(33, 15), 30);
        Bounds.same("component(34, 15)", ways.component(34, 15), ComponentTree.NONE);
        Bounds.same("component(34, 14)", ways.component(34, 14), 28);
        Bounds.same("component(63, 1)", ways.component(63, 1), ComponentTree.NONE);
        Bounds.says(26, "Returns the component of a rank that contains a pixel, as a node: the node with the least rank "
                + "of those that contain the pixel and have a rank of at least the given one.");
        ComponentTree gaps = Bounds.treeOf("4448");
        for (int rank = 0; rank <= 15; rank++) {
            int due = rank <= 4 ? 0 : rank <= 8 ? 1 : ComponentTree.NONE;
            Bounds.same("component(3, " + rank + ")", gaps.component(3, rank), due);
            Bounds.same("component(0, " + rank + ")", gaps.component(0, rank), rank <= 4 ? 0 : ComponentTree.NONE);
        }
        gaps.setDark(true);
        Bounds.same("the rank 11 of a dark tree", gaps.component(0, 11), 1);
        Bounds.same("the rank 12 of a dark tree", gaps.component(0, 12), ComponentTree.NONE);
        Bounds.same("the rank 7 of a dark tree", gaps.component(3, 7), 0);
        Bounds.same("the rank 8 of a dark tree", gaps.component(3, 8), ComponentTree.NONE);
    }

    private static void meet() {
        Bounds.says(27, "Throws IndexOutOfBoundsException if a pixel does not exist");
        Bounds.noPixel("meet(#, 0)", (tree, pixel) -> tree.meet(pixel, 0));
        Bounds.noPixel("meet(0, #)", (tree, pixel) -> tree.meet(0, pixel));
        Bounds.noPixel("meet(#, #)", (tree, pixel) -> tree.meet(pixel, pixel));
        Bounds.says(27, "a pixel, possibly the same");
        ComponentTree chess = Bounds.treeOf(CHESS);
        for (int pixel = 0; pixel < 64; pixel++) {
            Bounds.same("meet(" + pixel + ", " + pixel + ")", chess.meet(pixel, pixel), chess.nodeOf(pixel));
        }
        Bounds.says(27, "Returns the smallest node that contains two pixels.");
        Bounds.same("meet(0, 63)", chess.meet(0, 63), 0);
        ComponentTree ways = Bounds.treeOf(TWO_WAYS);
        Bounds.same("the ends of two ways", ways.meet(9, 33), 0);
        Bounds.same("the ends of one way", ways.meet(24, 33), 2);
        Bounds.same("the other way round", ways.meet(33, 24), 2);
        Bounds.same("neighbors at the end", ways.meet(33, 34), 28);
        Bounds.same("of a new object", new ComponentTree().meet(0, 0), 0);
    }

    private static void distance() {
        Bounds.says(28, "Throws IndexOutOfBoundsException if a node does not exist");
        Bounds.noNode("distance(#, 0)", (tree, node) -> tree.distance(node, 0));
        Bounds.noNode("distance(0, #)", (tree, node) -> tree.distance(0, node));
        Bounds.noNode("distance(#, #)", (tree, node) -> tree.distance(node, node));
        Bounds.says(28, "a node, possibly the same");
        ComponentTree ways = Bounds.treeOf(TWO_WAYS);
        for (int node = 0; node < 31; node++) {
            Bounds.same("distance(" + node + ", " + node + ")", ways.distance(node, node), 0);
        }
        Bounds.says(28, "Returns how many nodes lie between two nodes in the tree.");
        // Its 'Returns' is the more exact one: the steps are counted, so neighbors have the distance 1.
        Bounds.says(28, "Returns the number of steps from a node to its parent or to a child that one has to make at "
                + "least to get from the first node to the second one.");
        Bounds.same("to the parent", ways.distance(30, 28), 1);
        Bounds.same("to a child", ways.distance(28, 30), 1);
        Bounds.same("from the root to a leaf", ways.distance(0, 30), 15);
        Bounds.same("from leaf to leaf", ways.distance(29, 30), 30);
        Bounds.same("from leaf to leaf, the other way round", ways.distance(30, 29), 30);
        Bounds.same("between two children", ways.distance(1, 2), 2);
        Bounds.same("of a new object", new ComponentTree().distance(0, 0), 0);
    }

    /** Nodes that the image does not have any more are refused, also if the tree has been asked before. */
    private static void oldNodes() {
        Bounds.says(20, "Throws IndexOutOfBoundsException if the node does not exist");
        ComponentTree tree = Bounds.treeOf(CHESS);
        Bounds.same("attribute(32, 0)", tree.attribute(32, 0), 15);
        tree.setEight(true);
        Bounds.refuses(tree, "behind setEight", Bounds.INDEX, same -> same.attribute(2, 0));
        Bounds.same("meet(2, 2) behind setEight", tree.meet(2, 2), 1);
        Bounds.same("distance(0, 1) behind setEight", tree.distance(0, 1), 1);
        ComponentTree less = Bounds.treeOf("0122");
        Bounds.same("distance(0, 2)", less.distance(0, 2), 2);
        Bounds.type(less, "0002");
        less.load();
        Bounds.same("distance(0, 1) behind load", less.distance(0, 1), 1);
        tree.setEight(false);
        Bounds.same("behind setEight(false)", tree.attribute(32, 0), 15);
        tree.setLevel(63, 0);
        Bounds.refuses(tree, "behind setLevel", Bounds.INDEX, same -> same.attribute(32, 0));
        Bounds.refuses(tree, "leaf behind setLevel", Bounds.INDEX, same -> same.leaf(31));
        Bounds.refuses(tree, "child behind setLevel", Bounds.INDEX, same -> same.child(0, 31));
        tree.undo();
        Bounds.same("behind undo", tree.attribute(32, 1), 1);
        tree.begin(8, 8);
        Bounds.refuses(tree, "behind begin", Bounds.INDEX, same -> same.attribute(1, 0));
        Bounds.same("component(0, 1) behind begin", tree.component(0, 1), ComponentTree.NONE);
        Bounds.same("meet(0, 0) behind begin", tree.meet(0, 0), 0);
        Bounds.same("prominence(0), which is a leaf now", tree.prominence(0), 1);
    }

    private static void askingChangesNothing() {
        Bounds.says(13, "Each call of begin, setLevel, fill, load, filter, reconstruct, suppress, keepPeaks and "
                + "complement that throws no exception is a step, also if nothing changes by it.");
        Bounds.changesNothing("count(2)", tree -> tree.count(2));
        Bounds.changesNothing("nodeOf(0)", tree -> tree.nodeOf(0));
        Bounds.changesNothing("attribute(0, 11)", tree -> tree.attribute(0, 11));
        Bounds.changesNothing("meanRank(0)", tree -> tree.meanRank(0));
        Bounds.changesNothing("contains(0, 0)", tree -> tree.contains(0, 0));
        Bounds.changesNothing("leaf(0)", tree -> tree.leaf(0));
        Bounds.changesNothing("prominence(leaf(0))", tree -> tree.prominence(tree.leaf(0)));
        Bounds.changesNothing("component(0, 15)", tree -> tree.component(0, 15));
        Bounds.changesNothing("meet(0, 0)", tree -> tree.meet(0, 0));
        Bounds.changesNothing("distance(0, 0)", tree -> tree.distance(0, 0));
    }
}
