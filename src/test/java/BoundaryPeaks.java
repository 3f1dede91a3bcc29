/** The boundary cases of the promises 34 to 38: reconstruction, peaks, trials and the digest. */
final class BoundaryPeaks {
    private BoundaryPeaks() {
    }

    static void all() {
        reconstruct();
        reconstructFromOneMarker();
        reconstructDark();
        suppress();
        suppressInDetail();
        keepPeaks();
        keepPeaksInDetail();
        ifLevel();
        ifLevelInDetail();
        digest();
        digestAtItsThresholds();
        digestOfALargeImage();
    }

    private static void reconstruct() {
        Bounds.says(34, "The markers stay.");
        Bounds.markersStay("reconstruct()", tree -> tree.reconstruct());
        Bounds.says(34, "This is a step.");
        Bounds.isStep("reconstruct()", tree -> tree.reconstruct());
        Bounds.says(34, "Each call of begin, setLevel, fill, load, filter, reconstruct, suppress, keepPeaks and "
                + "complement that throws no exception is a step, also if nothing changes by it.");
        ComponentTree same = Bounds.treeOf("3F/07");
        same.markAll();
        Bounds.same("nothing changes", same.reconstruct(), 0);
        Bounds.same("count(7)", same.count(7), 2);
        Bounds.looks("the image", same, "3F/07");
        Bounds.says(34, "Returns how many pixels got another level.");
        Bounds.same("of a new object", new ComponentTree().reconstruct(), 0);
        ComponentTree largest = new ComponentTree();
        largest.begin(8, 8);
        largest.fill(0, 63, 15);
        Bounds.same("all pixels", largest.reconstruct(), 64);
        Bounds.same("all are 0", largest.count(6), 0);
        Bounds.same("again", largest.reconstruct(), 0);
        Bounds.says(34, "(For 0 there always is one.)");
        ComponentTree none = Bounds.treeOf("5A/F5");
        Bounds.same("without markers", none.reconstruct(), 4);
        Bounds.looks("without markers, below the root's rank", none, "00/00");
    }

    private static void reconstructed(String text, int pixel, int marker, String due) {
        ComponentTree tree = Bounds.treeOf(text);
        tree.setMarker(pixel, marker);
        tree.reconstruct();
        Bounds.looks("from the marker " + marker + " at " + pixel + " in " + text, tree, due);
    }

    private static void reconstructFromOneMarker() {
        Bounds.says(34, "To reconstruct the image from given markers means: the new rank of a pixel is the greatest "
                + "number t, from 0 to its rank, for which the component of rank t that contains the pixel contains a "
                + "pixel (possibly the same one) whose marker has a rank of t or more.");
        reconstructed("1F1", 1, 15, "1F1");
        reconstructed("1F1", 1, 14, "1E1");
        reconstructed("1F1", 1, 2, "121");
        reconstructed("1F1", 1, 1, "111");
        reconstructed("1F1", 1, 0, "000");
        reconstructed("1F1", 0, 15, "111");
        reconstructed("1F1", 0, 1, "111");
        reconstructed("3F3", 2, 2, "222");
        reconstructed("F0F", 0, 15, "F00");
        reconstructed("F0F", 2, 15, "00F");
        reconstructed("F1F", 0, 15, "F11");
        reconstructed("59F95", 2, 9, "59995");
        reconstructed("59F95", 1, 15, "59995");
        reconstructed("59F95", 3, 10, "59995");
        reconstructed("59F95", 2, 10, "59A95");
        reconstructed("7", 0, 15, "7");
        reconstructed("7", 0, 7, "7");
        reconstructed("7", 0, 6, "6");
        ComponentTree diagonal = Bounds.treeOf("90/09");
        diagonal.setMarker(0, 9);
        diagonal.reconstruct();
        Bounds.looks("not over a diagonal with 4", diagonal, "90/00");
        diagonal.undo();
        diagonal.setEight(true);
        diagonal.reconstruct();
        Bounds.looks("over a diagonal with 8", diagonal, "90/09");
        ComponentTree far = new ComponentTree();
        far.begin(8, 8);
        far.fill(0, 63, 15);
        far.setMarker(63, 15);
        Bounds.same("from the last pixel to all", far.reconstruct(), 0);
    }

    private static void reconstructDark() {
        Bounds.says(34, "The rank of a marker is computed in the same way.");
        ComponentTree tree = Bounds.darkTreeOf("F0F");
        Bounds.same("markers of the level 0 have the rank 15", tree.reconstruct(), 0);
        tree.setMarker(0, 15);
        tree.setMarker(1, 15);
        tree.setMarker(2, 15);
        Bounds.same("markers of the level 15 have the rank 0", tree.reconstruct(), 1);
        Bounds.looks("the dark image", tree, "FFF");
        tree.undo();
        tree.setMarker(1, 4);
        Bounds.same("a marker between", tree.reconstruct(), 1);
        Bounds.looks("the dark image with it", tree, "F4F");
    }

    private static void suppress() {
        Bounds.says(35, "Throws IllegalArgumentException if height is out of range");
        Bounds.noArgument("suppress(#)", 0, 15, (tree, height) -> tree.suppress(height));
        Bounds.says(35, "The markers stay.");
        Bounds.markersStay("suppress(0)", tree -> tree.suppress(0));
        Bounds.markersStay("suppress(15)", tree -> tree.suppress(15));
        Bounds.says(35, "This is a step.");
        Bounds.isStep("suppress(0)", tree -> tree.suppress(0));
        Bounds.isStep("suppress(3)", tree -> tree.suppress(3));
        Bounds.isStep("suppress(15)", tree -> tree.suppress(15));
        Bounds.says(35, "0 to 15");
        ComponentTree tree = Bounds.treeOf("0F0A0");
        Bounds.same("suppress(0)", tree.suppress(0), 0);
        Bounds.looks("by 0", tree, "0F0A0");
        Bounds.same("suppress(15)", tree.suppress(15), 2);
        Bounds.looks("by 15", tree, "00000");
        Bounds.says(35, "Returns how many pixels got another level.");
        Bounds.same("of a new object", new ComponentTree().suppress(15), 0);
        ComponentTree largest = new ComponentTree();
        largest.begin(8, 8);
        largest.fill(0, 63, 1);
        Bounds.same("of all", largest.suppress(1), 64);
        Bounds.same("of none", largest.suppress(1), 0);
    }

    private static void suppressed(String text, int height, String due) {
        ComponentTree tree = Bounds.treeOf(text);
        tree.markAll();
        tree.suppress(height);
        Bounds.looks("suppress(" + height + ") of " + text, tree, due);
    }

    private static void suppressInDetail() {
        Bounds.says(35, "Suppresses low peaks: reconstructs the image as if the marker of each pixel had the rank of the "
                + "pixel minus height, or the rank 0 if that would be less than 0.");
        suppressed("2", 1, "1");
        suppressed("2", 2, "0");
        suppressed("2", 3, "0");
        suppressed("2", 15, "0");
        suppressed("3F3", 11, "343");
        suppressed("3F3", 12, "333");
        suppressed("3F3", 13, "222");
        suppressed("3F3", 14, "111");
        suppressed("3F3", 15, "000");
        suppressed("50F", 4, "10B");
        suppressed("50F", 5, "00A");
        suppressed("50F", 6, "009");
        // The mean peak keeps what the higher one beside it carries.
        suppressed("7698", 2, "6677");
        suppressed("F", 1, "E");
        suppressed("F", 15, "0");
        ComponentTree dark = Bounds.darkTreeOf("FA0");
        dark.suppress(5);
        Bounds.looks("of a dark tree", dark, "FA5");
        dark.undo();
        dark.suppress(15);
        Bounds.looks("of a dark tree, by 15", dark, "FFF");
        dark.undo();
        dark.suppress(0);
        Bounds.looks("of a dark tree, by 0", dark, "FA0");
    }

    private static void keepPeaks() {
        Bounds.says(36, "Throws IllegalArgumentException if many is out of range");
        Bounds.noArgument("keepPeaks(#)", 0, 64, (tree, many) -> tree.keepPeaks(many));
        Bounds.says(36, "This is a step.");
        Bounds.isStep("keepPeaks(0)", tree -> tree.keepPeaks(0));
        Bounds.isStep("keepPeaks(1)", tree -> tree.keepPeaks(1));
        Bounds.isStep("keepPeaks(64)", tree -> tree.keepPeaks(64));
        Bounds.markersStay("keepPeaks(0)", tree -> tree.keepPeaks(0));
        Bounds.says(36, "how many leaves remain (all, if there are not so many), 0 to 64");
        for (int many : new int[] {3, 4, 31, 32, 33, 63, 64}) {
            ComponentTree tree = Bounds.treeOf("20703");
            Bounds.same("keepPeaks(" + many + ") of three", tree.keepPeaks(many), 0);
            Bounds.looks("all of three", tree, "20703");
        }
        ComponentTree tree = Bounds.treeOf("20703");
        Bounds.same("keepPeaks(2)", tree.keepPeaks(2), 1);
        Bounds.looks("two of three", tree, "00703");
        Bounds.same("keepPeaks(1)", tree.keepPeaks(1), 1);
        Bounds.looks("one of two", tree, "00700");
        Bounds.same("keepPeaks(0)", tree.keepPeaks(0), 1);
        Bounds.looks("none of one", tree, "00000");
        Bounds.same("keepPeaks(0) of a root alone", tree.keepPeaks(0), 0);
        Bounds.same("keepPeaks(64) of a root alone", tree.keepPeaks(64), 0);
        Bounds.same("keepPeaks(0) of a new object", new ComponentTree().keepPeaks(0), 0);
        ComponentTree flat = Bounds.treeOf("FF/FF");
        Bounds.same("keepPeaks(0) of a flat image, whose root remains", flat.keepPeaks(0), 0);
        Bounds.looks("a flat image", flat, "FF/FF");
    }

    private static void kept(String text, int many, String due) {
        ComponentTree tree = Bounds.treeOf(text);
        tree.keepPeaks(many);
        Bounds.looks("keepPeaks(" + many + ") of " + text, tree, due);
    }

    private static void keepPeaksInDetail() {
        Bounds.says(36, "Keeps peaks: of the nodes there remain the root, the first leaves in the order of the leaves, "
                + "and all ancestors of these leaves; the new rank of a pixel is the rank of its node if that remains, "
                + "otherwise the rank of the nearest ancestor of that node that remains.");
        kept("9891F", 0, "11111");
        kept("9891F", 1, "1111F");
        kept("9891F", 2, "9881F");
        kept("9891F", 3, "9891F");
        kept("059", 1, "059");
        kept("05970", 1, "05970");
        kept("0123456F", 1, "0123456F");
        kept("0123456F", 0, "00000000");
        Bounds.says(36, "Returns how many pixels got another level.");
        ComponentTree chess = Bounds.treeOf("F0F0F0F0/0F0F0F0F/F0F0F0F0/0F0F0F0F/F0F0F0F0/0F0F0F0F/F0F0F0F0/0F0F0F0F");
        Bounds.same("keepPeaks(32)", chess.keepPeaks(32), 0);
        Bounds.same("keepPeaks(31)", chess.keepPeaks(31), 1);
        Bounds.same("the last one of equal ones is gone", chess.level(63), 0);
        Bounds.same("the first one is not", chess.level(0), 15);
        Bounds.same("keepPeaks(0)", chess.keepPeaks(0), 31);
        Bounds.same("the most", most().keepPeaks(0), 63);
        ComponentTree shrunk = Bounds.treeOf("01234567/FEDCBA98");
        Bounds.same("all nodes of a longer way remain", shrunk.verdict(15, 1, 0, 2), 3);
        shrunk.setLevel(8, 14);
        Bounds.same("keepPeaks(0) of the shorter way", shrunk.keepPeaks(0), 15);
        ComponentTree dark = Bounds.darkTreeOf("F0F1F");
        Bounds.same("of a dark tree", dark.keepPeaks(1), 1);
        Bounds.looks("the dark image", dark, "F0FFF");
    }

    private static ComponentTree most() {
        ComponentTree tree = new ComponentTree();
        tree.begin(8, 8);
        tree.fill(0, 63, 1);
        tree.setLevel(63, 0);
        return tree;
    }

    private static void ifLevel() {
        Bounds.says(37, "Throws IndexOutOfBoundsException if the pixel does not exist");
        Bounds.noPixel("ifLevel(#, 0, 2)", (tree, pixel) -> tree.ifLevel(pixel, 0, 2));
        Bounds.says(37, "Throws IllegalArgumentException if level is not 0 to 15, or what is not 2 to 4");
        Bounds.noArgument("ifLevel(0, #, 2)", 0, 15, (tree, level) -> tree.ifLevel(0, level, 2));
        Bounds.noArgument("ifLevel(0, 0, #)", 2, 4, (tree, what) -> tree.ifLevel(0, 0, what));
        for (int what : new int[] {0, 1, 5, 6, 7}) {
            Bounds.refuses("ifLevel(0, 0, " + what + "), which count knows", Bounds.ARGUMENT,
                    tree -> tree.ifLevel(0, 0, what));
        }
        Bounds.says(37, "If several exceptions apply, the one that is named first in the throws clause is thrown.");
        Bounds.noPixel("ifLevel(#, 16, 2)", (tree, pixel) -> tree.ifLevel(pixel, 16, 2));
        Bounds.noPixel("ifLevel(#, 0, 1)", (tree, pixel) -> tree.ifLevel(pixel, 0, 1));
        Bounds.noPixel("ifLevel(#, -1, 5)", (tree, pixel) -> tree.ifLevel(pixel, -1, 5));
        Bounds.says(37, "Nothing is changed.");
        for (int what = 2; what <= 4; what++) {
            int asked = what;
            Bounds.changesNothing("ifLevel(0, 15, " + what + ")", tree -> tree.ifLevel(0, 15, asked));
            Bounds.changesNothing("ifLevel(0, 7, " + what + ") behind a question", tree -> {
                tree.count(2);
                tree.ifLevel(0, 7, asked);
            });
        }
    }

    private static void ifLevelInDetail() {
        Bounds.says(37, "2 for the number of nodes, 3 for the number of leaves, 4 for the greatest number of nodes on a "
                + "way from the root to a leaf");
        Bounds.says(37, "the level, 0 to 15");
        for (Bounds.State state : Bounds.State.values()) {
            for (int pixel : new int[] {0, state.pixels() - 1}) {
                for (int level = 0; level <= 15; level++) {
                    ifLevelIsAsSet(state, pixel, level);
                }
            }
        }
        ComponentTree one = new ComponentTree();
        for (int what = 2; what <= 4; what++) {
            Bounds.same("of a new object", one.ifLevel(0, 15, what), 1);
        }
        ComponentTree tree = Bounds.treeOf("05050");
        Bounds.same("as it is: nodes", tree.ifLevel(0, 0, 2), 3);
        Bounds.same("as it is: leaves", tree.ifLevel(0, 0, 3), 2);
        Bounds.same("as it is: the way", tree.ifLevel(0, 0, 4), 2);
        Bounds.same("joined: nodes", tree.ifLevel(2, 5, 2), 2);
        Bounds.same("joined: leaves", tree.ifLevel(2, 5, 3), 1);
        Bounds.same("a step higher: the way", tree.ifLevel(2, 6, 4), 3);
    }

    private static void ifLevelIsAsSet(Bounds.State state, int pixel, int level) {
        ComponentTree tree = state.make();
        ComponentTree set = state.make();
        set.setLevel(pixel, level);
        for (int what = 2; what <= 4; what++) {
            Bounds.same("ifLevel(" + pixel + ", " + level + ", " + what + "), " + state,
                    tree.ifLevel(pixel, level, what), set.count(what));
        }
    }

    private static void digest() {
        Bounds.says(38, "The hash starts as 1879; each value x replaces the hash by 31 * hash + x, in long arithmetic "
                + "with overflow.");
        ComponentTree one = new ComponentTree();
        Bounds.same("of a new object", one.digest(), digestOf(one, ""));
        Bounds.same("again", one.digest(), digestOf(one, ""));
        Bounds.changesNothing("digest()", tree -> tree.digest());
        Bounds.says(38, "The values are, in this order: 1 if the tree is dark, else 0; 1 if the connectivity is 8, else "
                + "0; count for 0 to 7; for each pixel its level, its marker and its node; for each node its attributes "
                + "0 to 11; the leaves in their order; loss(1, 3, 1), loss(6, 4, 3); the length of the input buffer and "
                + "each of its character codes.");
        ComponentTree middle = Bounds.State.MIDDLE.make();
        Bounds.same("of a dark tree with connectivity 8", middle.digest(), digestOf(middle, "1F/"));
        middle.setDark(false);
        Bounds.same("of a bright tree with connectivity 8", middle.digest(), digestOf(middle, "1F/"));
        middle.clearInput();
        Bounds.same("of an empty buffer", middle.digest(), digestOf(middle, ""));
        middle.append(126);
        Bounds.same("of the greatest code", middle.digest(), digestOf(middle, "~"));
        middle.append(32);
        Bounds.same("of the least code", middle.digest(), digestOf(middle, "~ "));
    }

    private static void digestAtItsThresholds() {
        // Nodes of the volumes 3 and 4, and of the area 3 and 4: they are just beside the digest's thresholds.
        for (String text : new String[] {"01400150/00000000/01120000", "01400150", "01120000", "0111200"}) {
            ComponentTree tree = Bounds.treeOf(text);
            Bounds.same("of " + text, tree.digest(), digestOf(tree, ""));
        }
    }

    private static void digestOfALargeImage() {
        ComponentTree tree = new ComponentTree();
        tree.begin(8, 8);
        for (int step = 0; step < 9; step++) {
            tree.fill(step, 45, step % 3 + 1);
        }
        tree.setLevel(63, 15);
        tree.setMarker(63, 15);
        tree.setDark(true);
        StringBuilder text = new StringBuilder();
        for (int code = 0; code < 72; code++) {
            text.append((char) (126 - code));
        }
        Bounds.type(tree, text.toString());
        Bounds.same("nodes", tree.count(2) < 10, true);
        Bounds.same("of the largest image, all saved images and all characters", tree.digest(),
                digestOf(tree, text.toString()));
    }

    /** The hash from what the other calls answer. */
    private static long digestOf(ComponentTree tree, String text) {
        boolean dark = tree.setDark(false);
        tree.setDark(dark);
        boolean eight = tree.setEight(false);
        tree.setEight(eight);
        long hash = 1879;
        hash = 31 * hash + (dark ? 1 : 0);
        hash = 31 * hash + (eight ? 1 : 0);
        for (int what = 0; what <= 7; what++) {
            hash = 31 * hash + tree.count(what);
        }
        int pixels = tree.count(0) * tree.count(1);
        for (int pixel = 0; pixel < pixels; pixel++) {
            hash = 31 * hash + tree.level(pixel);
            hash = 31 * hash + tree.marker(pixel);
            hash = 31 * hash + tree.nodeOf(pixel);
        }
        int nodes = tree.count(2);
        for (int node = 0; node < nodes; node++) {
            for (int attribute = 0; attribute <= 11; attribute++) {
                hash = 31 * hash + tree.attribute(node, attribute);
            }
        }
        int leaves = tree.count(3);
        for (int index = 0; index < leaves; index++) {
            hash = 31 * hash + tree.leaf(index);
        }
        hash = 31 * hash + tree.loss(1, 3, 1);
        hash = 31 * hash + tree.loss(6, 4, 3);
        hash = 31 * hash + text.length();
        for (char code : text.toCharArray()) {
            hash = 31 * hash + code;
        }
        return hash;
    }
}
