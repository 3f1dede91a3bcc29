import java.util.ArrayDeque;

/** The boundary cases of the promises 1 to 13: images, steps and undo. */
final class BoundaryImages {
    private BoundaryImages() {
    }

    static void all() {
        newObject();
        begin();
        setLevel();
        fill();
        complement();
        setMarker();
        markAll();
        levelAndMarker();
        difference();
        setDark();
        setEight();
        oneShapeAfterTheOther();
        undo();
        undoAtTheLimit();
        noCallOfThemIsAStep();
        refusedCallsAreNoSteps();
        aNewObjectIsItsOwn();
        theLastCall();
    }

    private static void newObject() {
        Bounds.says(1, "Creates an image of one pixel with the level 0 and the marker 0; the tree is bright, the "
                + "connectivity is 4, there are no saved images, and the buffer is empty.");
        ComponentTree tree = new ComponentTree();
        Bounds.same("columns", tree.count(0), 1);
        Bounds.same("rows", tree.count(1), 1);
        Bounds.same("level(0)", tree.level(0), 0);
        Bounds.same("marker(0)", tree.marker(0), 0);
        Bounds.refuses(tree, "level(1)", Bounds.INDEX, same -> same.level(1));
        Bounds.same("the rank of the root", tree.attribute(0, 0), 0);
        Bounds.same("setDark(false)", tree.setDark(false), false);
        Bounds.same("setEight(false)", tree.setEight(false), false);
        Bounds.same("count(7)", tree.count(7), 0);
        Bounds.refuses(tree, "undo()", Bounds.STATE, same -> same.undo());
        Bounds.same("firstError()", tree.firstError(), 0);
        Bounds.refuses(tree, "load()", Bounds.STATE, same -> same.load());
        Bounds.same("append('1')", tree.append('1'), 1);
        Bounds.says(1, "The constants: NONE = -1: There is no such number.");
        Bounds.same("NONE", ComponentTree.NONE, -1);
    }

    private static void aNewObjectIsItsOwn() {
        Bounds.says(1, "Creates an image of one pixel with the level 0 and the marker 0; the tree is bright, the "
                + "connectivity is 4, there are no saved images, and the buffer is empty.");
        long due = new ComponentTree().digest();
        Bounds.State.FULL.make();
        Bounds.State.MIDDLE.make();
        Bounds.same("digest() behind other objects", new ComponentTree().digest(), due);
    }

    private static void begin() {
        Bounds.says(2, "An image has 1 to 8 columns and 1 to 8 rows.");
        for (int columns = 1; columns <= 8; columns++) {
            for (int rows = 1; rows <= 8; rows++) {
                beginOf(columns, rows);
            }
        }
        Bounds.says(2, "Throws IllegalArgumentException if columns or rows is not 1 to 8");
        Bounds.noArgument("begin(#, 1)", 1, 8, (tree, number) -> tree.begin(number, 1));
        Bounds.noArgument("begin(#, 8)", 1, 8, (tree, number) -> tree.begin(number, 8));
        Bounds.noArgument("begin(1, #)", 1, 8, (tree, number) -> tree.begin(1, number));
        Bounds.noArgument("begin(8, #)", 1, 8, (tree, number) -> tree.begin(8, number));
        Bounds.noArgument("begin(#, #)", 1, 8, (tree, number) -> tree.begin(number, number));
        Bounds.refuses("begin(16, 4), also 64 pixels", Bounds.ARGUMENT, tree -> tree.begin(16, 4));
        Bounds.refuses("begin(-8, -8), also 64 pixels", Bounds.ARGUMENT, tree -> tree.begin(-8, -8));
        Bounds.refuses("begin(0, 9)", Bounds.ARGUMENT, tree -> tree.begin(0, 9));
        beginStartsFromNothing();
    }

    private static void beginOf(int columns, int rows) {
        ComponentTree tree = new ComponentTree();
        int pixels = columns * rows;
        tree.begin(columns, rows);
        Bounds.same("columns", tree.count(0), columns);
        Bounds.same("rows", tree.count(1), rows);
        Bounds.same("the last pixel", tree.setLevel(pixels - 1, 15), 0);
        Bounds.same("the last pixel's level", tree.level(pixels - 1), 15);
        Bounds.refuses(tree, "the pixel behind " + pixels, Bounds.INDEX, same -> same.level(pixels));
        Bounds.same("the nodes", tree.count(2), pixels == 1 ? 1 : 2);
    }

    private static void beginStartsFromNothing() {
        Bounds.says(2, "Begins an image whose pixels all have the level 0 and the marker 0.");
        for (Bounds.State state : Bounds.State.values()) {
            ComponentTree tree = state.make();
            tree.begin(8, 8);
            Bounds.same("the levels", tree.count(6), 0);
            Bounds.same("the markers", tree.difference(), 0);
            tree.fill(0, 63, 15);
            tree.markAll();
            tree.begin(1, 1);
            Bounds.same("the level", tree.level(0), 0);
            Bounds.same("the marker", tree.marker(0), 0);
            tree.begin(8, 8);
            Bounds.same("the levels of an image that has grown", tree.count(6), 0);
            Bounds.same("the markers of an image that has grown", tree.difference(), 0);
            Bounds.same("its nodes", tree.count(2), 1);
        }
        Bounds.says(2, "Returns the number of pixels before.");
        ComponentTree tree = new ComponentTree();
        Bounds.same("begin(8, 8) of a new object", tree.begin(8, 8), 1);
        Bounds.same("begin(1, 8)", tree.begin(1, 8), 64);
        Bounds.same("begin(7, 1)", tree.begin(7, 1), 8);
        Bounds.same("begin(7, 1) again", tree.begin(7, 1), 7);
        Bounds.says(2, "This is a step.");
        Bounds.isStep("begin(1, 1)", same -> same.begin(1, 1));
        Bounds.isStep("begin(8, 8)", same -> same.begin(8, 8));
        Bounds.isStep("begin(2, 3)", same -> same.begin(2, 3));
    }

    private static void setLevel() {
        Bounds.says(3, "Throws IndexOutOfBoundsException if the pixel does not exist");
        Bounds.noPixel("setLevel(#, 0)", (tree, pixel) -> tree.setLevel(pixel, 0));
        Bounds.says(3, "Throws IllegalArgumentException if level is out of range");
        Bounds.noArgument("setLevel(0, #)", 0, 15, (tree, level) -> tree.setLevel(0, level));
        Bounds.says(3, "If several exceptions apply, the one that is named first in the throws clause is thrown.");
        Bounds.noPixel("setLevel(#, 16)", (tree, pixel) -> tree.setLevel(pixel, 16));
        Bounds.noPixel("setLevel(#, -1)", (tree, pixel) -> tree.setLevel(pixel, -1));
        Bounds.says(3, "the new level, 0 to 15");
        for (Bounds.State state : Bounds.State.values()) {
            ComponentTree tree = state.make();
            for (int pixel : new int[] {0, state.pixels() - 1}) {
                tree.setLevel(pixel, 15);
                Bounds.same("level(" + pixel + ")", tree.level(pixel), 15);
                tree.setLevel(pixel, 0);
                Bounds.same("level(" + pixel + ")", tree.level(pixel), 0);
            }
        }
        Bounds.says(3, "Returns its level before.");
        ComponentTree tree = new ComponentTree();
        Bounds.same("setLevel(0, 15)", tree.setLevel(0, 15), 0);
        Bounds.same("setLevel(0, 15) again", tree.setLevel(0, 15), 15);
        Bounds.same("setLevel(0, 0)", tree.setLevel(0, 0), 15);
        Bounds.says(3, "Each pixel has a level from 0 to 15, and a marker from 0 to 15.");
        for (int level = 0; level <= 15; level++) {
            tree.setLevel(0, level);
            tree.setMarker(0, 15 - level);
            Bounds.same("level(0)", tree.level(0), level);
            Bounds.same("marker(0)", tree.marker(0), 15 - level);
        }
        Bounds.says(3, "This is a step.");
        Bounds.isStep("setLevel(0, 15)", same -> same.setLevel(0, 15));
        Bounds.says(3, "Each call of begin, setLevel, fill, load, filter, reconstruct, suppress, keepPeaks and "
                + "complement that throws no exception is a step, also if nothing changes by it.");
        Bounds.isStep("setLevel(0, level(0))", same -> same.setLevel(0, same.level(0)));
        theirPixelsAreNumberedByRows();
    }

    private static void theirPixelsAreNumberedByRows() {
        Bounds.says(3, "Its pixels are numbered from 0, row by row from the top, in each row from the left.");
        ComponentTree tree = Bounds.treeOf("000/000");
        tree.setLevel(0, 1);
        tree.setLevel(2, 2);
        tree.setLevel(3, 3);
        tree.setLevel(5, 4);
        Bounds.looks("the corners", tree, "102/304");
    }

    private static void fill() {
        Bounds.says(4, "Throws IndexOutOfBoundsException if first or last does not exist");
        Bounds.noPixel("fill(#, 0, 0)", (tree, pixel) -> tree.fill(pixel, 0, 0));
        Bounds.noPixel("fill(0, #, 0)", (tree, pixel) -> tree.fill(0, pixel, 0));
        Bounds.noPixel("fill(#, #, 0)", (tree, pixel) -> tree.fill(pixel, pixel, 0));
        Bounds.says(4, "Throws IllegalArgumentException if level is out of range");
        Bounds.noArgument("fill(0, 0, #)", 0, 15, (tree, level) -> tree.fill(0, 0, level));
        Bounds.says(4, "If several exceptions apply, the one that is named first in the throws clause is thrown.");
        Bounds.noPixel("fill(#, 0, 16)", (tree, pixel) -> tree.fill(pixel, 0, 16));
        Bounds.noPixel("fill(0, #, -1)", (tree, pixel) -> tree.fill(0, pixel, -1));
        Bounds.says(4, "the pixel at the opposite corner, possibly the same");
        fillLooks(5, 5, 1, "0000/0F00/0000");
        fillLooks(0, 0, 1, "F000/0000/0000");
        fillLooks(11, 11, 1, "0000/0000/000F");
        fillLooks(0, 11, 12, "FFFF/FFFF/FFFF");
        fillLooks(11, 0, 12, "FFFF/FFFF/FFFF");
        fillLooks(3, 8, 12, "FFFF/FFFF/FFFF");
        fillLooks(8, 3, 12, "FFFF/FFFF/FFFF");
        fillLooks(3, 4, 8, "FFFF/FFFF/0000");
        fillLooks(7, 4, 4, "0000/FFFF/0000");
        fillLooks(10, 2, 3, "00F0/00F0/00F0");
        fillLooks(6, 11, 4, "0000/00FF/00FF");
        fillLooks(7, 10, 4, "0000/00FF/00FF");
        fillMany();
    }

    private static void fillLooks(int first, int last, int due, String looks) {
        ComponentTree tree = Bounds.treeOf("0000/0000/0000");
        String call = "fill(" + first + ", " + last + ", 15)";
        Bounds.same(call, tree.fill(first, last, 15), due);
        Bounds.looks(call, tree, looks);
        Bounds.same(call + " again", tree.fill(last, first, 15), 0);
        Bounds.same(call + " a third time, with 0", tree.fill(last, first, 0), due);
    }

    private static void fillMany() {
        Bounds.says(4, "Returns how many pixels got another level.");
        ComponentTree column = Bounds.treeOf("0/0/0/0");
        Bounds.same("fill(3, 2, 7) of one column", column.fill(3, 2, 7), 2);
        Bounds.looks("one column", column, "0/0/7/7");
        ComponentTree row = Bounds.treeOf("0000");
        Bounds.same("fill(3, 2, 7) of one row", row.fill(3, 2, 7), 2);
        Bounds.looks("one row", row, "0077");
        ComponentTree tree = new ComponentTree();
        Bounds.same("fill(0, 0, 0) of a new object", tree.fill(0, 0, 0), 0);
        tree.begin(8, 8);
        Bounds.same("fill(0, 63, 0)", tree.fill(0, 63, 0), 0);
        Bounds.same("fill(0, 63, 15)", tree.fill(0, 63, 15), 64);
        Bounds.same("fill(63, 63, 14)", tree.fill(63, 63, 14), 1);
        Bounds.same("fill(0, 63, 15) again", tree.fill(0, 63, 15), 1);
        Bounds.says(4, "the new level, 0 to 15");
        Bounds.same("fill(56, 7, 0)", tree.fill(56, 7, 0), 64);
        Bounds.same("the sum of the levels 0", tree.count(6), 0);
        tree.fill(7, 56, 15);
        Bounds.same("the sum of the levels 15", tree.count(6), 960);
        Bounds.says(4, "This is a step.");
        Bounds.isStep("fill(0, last, 3)", same -> same.fill(0, same.count(0) * same.count(1) - 1, 3));
        Bounds.isStep("fill(0, 0, 15)", same -> same.fill(0, 0, 15));
        Bounds.isStep("fill(0, 0, level(0))", same -> same.fill(0, 0, same.level(0)));
    }

    private static void complement() {
        Bounds.says(5, "Replaces each level by 15 minus the level.");
        ComponentTree tree = Bounds.treeOf("0F/78");
        tree.complement();
        Bounds.looks("complement()", tree, "F0/87");
        tree.setDark(true);
        tree.complement();
        Bounds.looks("complement() of a dark tree", tree, "0F/78");
        Bounds.says(5, "The markers stay.");
        Bounds.markersStay("complement()", same -> same.complement());
        Bounds.says(5, "This is a step.");
        Bounds.isStep("complement()", same -> same.complement());
        Bounds.says(5, "Returns the number of nodes that the tree has afterwards.");
        Bounds.same("complement() of a new object", new ComponentTree().complement(), 1);
        Bounds.same("of one peak", Bounds.treeOf("020").complement(), 3);
        Bounds.same("of two peaks", Bounds.treeOf("202").complement(), 2);
        Bounds.same("of a dark tree with two peaks", Bounds.darkTreeOf("020").complement(), 2);
        Bounds.same("of a dark tree with one peak", Bounds.darkTreeOf("202").complement(), 3);
        Bounds.same("with connectivity 4", Bounds.treeOf("F0/0F").complement(), 3);
        Bounds.same("with connectivity 8", Bounds.eightTreeOf("F0/0F").complement(), 2);
        Bounds.same("of the longest way", Bounds.treeOf("01234567/FEDCBA98").complement(), 16);
        ComponentTree asked = Bounds.treeOf("020");
        Bounds.same("count(2) before", asked.count(2), 2);
        Bounds.same("complement() behind it", asked.complement(), 3);
        Bounds.same("count(2) afterwards", asked.count(2), 3);
    }

    private static void setMarker() {
        Bounds.says(6, "Throws IndexOutOfBoundsException if the pixel does not exist");
        Bounds.noPixel("setMarker(#, 0)", (tree, pixel) -> tree.setMarker(pixel, 0));
        Bounds.says(6, "Throws IllegalArgumentException if marker is out of range");
        Bounds.noArgument("setMarker(0, #)", 0, 15, (tree, marker) -> tree.setMarker(0, marker));
        Bounds.says(6, "If several exceptions apply, the one that is named first in the throws clause is thrown.");
        Bounds.noPixel("setMarker(#, 16)", (tree, pixel) -> tree.setMarker(pixel, 16));
        Bounds.noPixel("setMarker(#, -1)", (tree, pixel) -> tree.setMarker(pixel, -1));
        Bounds.says(6, "the new marker, 0 to 15");
        for (Bounds.State state : Bounds.State.values()) {
            ComponentTree tree = state.make();
            int last = state.pixels() - 1;
            tree.setMarker(last, 15);
            Bounds.same("marker(last)", tree.marker(last), 15);
            tree.setMarker(last, 0);
            Bounds.same("marker(last)", tree.marker(last), 0);
        }
        Bounds.says(6, "Returns its marker before.");
        ComponentTree tree = new ComponentTree();
        Bounds.same("setMarker(0, 15)", tree.setMarker(0, 15), 0);
        Bounds.same("setMarker(0, 15) again", tree.setMarker(0, 15), 15);
        Bounds.same("setMarker(0, 0)", tree.setMarker(0, 0), 15);
        Bounds.same("the level stays", tree.level(0), 0);
    }

    private static void markAll() {
        Bounds.says(7, "Returns how many markers changed.");
        ComponentTree tree = new ComponentTree();
        Bounds.same("markAll() of a new object", tree.markAll(), 0);
        tree.begin(8, 8);
        Bounds.same("markAll() of a blank image", tree.markAll(), 0);
        tree.fill(0, 63, 15);
        Bounds.same("markAll() of all", tree.markAll(), 64);
        Bounds.same("markAll() again", tree.markAll(), 0);
        tree.setMarker(63, 14);
        Bounds.same("markAll() of the last one", tree.markAll(), 1);
        Bounds.same("marker(63)", tree.marker(63), 15);
        tree.setMarker(0, 0);
        Bounds.same("markAll() of the first one", tree.markAll(), 1);
        ComponentTree dark = Bounds.darkTreeOf("0F");
        Bounds.same("markAll() of a dark tree", dark.markAll(), 1);
        Bounds.same("marker(0) is a level", dark.marker(0), 0);
        Bounds.same("marker(1) is a level", dark.marker(1), 15);
    }

    private static void levelAndMarker() {
        Bounds.says(8, "Throws IndexOutOfBoundsException if the pixel does not exist");
        Bounds.noPixel("level(#)", (tree, pixel) -> tree.level(pixel));
        ComponentTree tree = Bounds.treeOf("1234/5678");
        tree.begin(2, 2);
        Bounds.refuses(tree, "level(4) of an image that has shrunk", Bounds.INDEX, same -> same.level(4));
        Bounds.same("level(3)", tree.level(3), 0);
        tree.undo();
        Bounds.same("level(4) of an image that is back", tree.level(4), 5);
        Bounds.same("level(7)", tree.level(7), 8);
        Bounds.same("level(0)", tree.level(0), 1);
        Bounds.says(9, "Throws IndexOutOfBoundsException if the pixel does not exist");
        Bounds.noPixel("marker(#)", (same, pixel) -> same.marker(pixel));
        tree.setMarker(7, 9);
        tree.begin(7, 1);
        Bounds.refuses(tree, "marker(7) of an image that has shrunk", Bounds.INDEX, same -> same.marker(7));
        tree.undo();
        Bounds.same("marker(7) of an image that is back", tree.marker(7), 9);
        Bounds.same("marker(0)", tree.marker(0), 0);
    }

    private static void difference() {
        Bounds.says(10, "Returns the sum, over all pixels, of the absolute difference of level and marker.");
        ComponentTree tree = new ComponentTree();
        Bounds.same("of a new object", tree.difference(), 0);
        tree.begin(8, 8);
        tree.fill(0, 63, 15);
        Bounds.same("all levels above the markers", tree.difference(), 960);
        tree.markAll();
        Bounds.same("all levels equal to the markers", tree.difference(), 0);
        tree.fill(0, 63, 0);
        Bounds.same("all levels below the markers", tree.difference(), 960);
        tree.setLevel(63, 15);
        tree.setMarker(0, 0);
        Bounds.same("all but the first and the last one", tree.difference(), 62 * 15);
        ComponentTree both = Bounds.treeOf("0F");
        both.setMarker(0, 15);
        Bounds.same("one above and one below", both.difference(), 30);
        both.setDark(true);
        Bounds.same("of a dark tree", both.difference(), 30);
    }

    private static void setDark() {
        Bounds.says(11, "Returns whether it was dark before.");
        ComponentTree tree = new ComponentTree();
        Bounds.same("setDark(false) of a bright tree", tree.setDark(false), false);
        Bounds.same("setDark(true) of a bright tree", tree.setDark(true), false);
        Bounds.same("setDark(true) of a dark tree", tree.setDark(true), true);
        Bounds.same("setDark(false) of a dark tree", tree.setDark(false), true);
        Bounds.same("setDark(false) again", tree.setDark(false), false);
        Bounds.says(11, "The rank of a pixel is its level if the tree is bright, and 15 minus its level if it is dark.");
        for (int level = 0; level <= 15; level++) {
            tree.setDark(false);
            tree.setLevel(0, level);
            Bounds.same("the rank of the level " + level, tree.attribute(0, 0), level);
            tree.setDark(true);
            Bounds.same("the rank of the level " + level + " in a dark tree", tree.attribute(0, 0), 15 - level);
        }
    }

    private static void setEight() {
        Bounds.says(12, "Returns whether it was 8 before.");
        ComponentTree tree = new ComponentTree();
        Bounds.same("setEight(false) of 4", tree.setEight(false), false);
        Bounds.same("setEight(true) of 4", tree.setEight(true), false);
        Bounds.same("setEight(true) of 8", tree.setEight(true), true);
        Bounds.same("setEight(false) of 8", tree.setEight(false), true);
        Bounds.same("setEight(false) again", tree.setEight(false), false);
        Bounds.says(12, "true for 8, false for 4");
        ComponentTree diagonal = Bounds.treeOf("0F/F0");
        Bounds.same("leaves with 4", diagonal.count(3), 2);
        diagonal.setEight(true);
        Bounds.same("leaves with 8", diagonal.count(3), 1);
        diagonal.setEight(false);
        Bounds.same("leaves with 4 again", diagonal.count(3), 2);
        neighborsAtTheEdges();
    }

    private static void neighborsAtTheEdges() {
        Bounds.says(12, "The neighbors of a pixel are the pixels beside it in the same row or column (4 neighbors), "
                + "and, if the connectivity is 8, also the diagonal ones.");
        String[] apart = {
            "000F/F000/0000", "F00F", "F/0/0/F", "F000/0000/000F", "0F0/000/0F0", "000F/0000/F000",
            "0000000F/F0000000", "00F/000/F00", "F0000000/0000000F", "F00F/0000/0000",
            "F0000000/00000000/00000000/00000000/00000000/00000000/00000000/0000000F",
            "0000000F/00000000/00000000/00000000/00000000/00000000/00000000/F0000000"
        };
        for (String text : apart) {
            Bounds.same("apart with 4: " + text, Bounds.treeOf(text).count(3), 2);
            Bounds.same("apart with 8: " + text, Bounds.eightTreeOf(text).count(3), 2);
        }
        String[] beside = {"FF", "F/F", "000/0FF/000", "000/0F0/0F0", "00000000/000000FF", "0F/0F"};
        for (String text : beside) {
            Bounds.same("together with 4: " + text, Bounds.treeOf(text).count(3), 1);
            Bounds.same("together with 8: " + text, Bounds.eightTreeOf(text).count(3), 1);
        }
        String[] diagonal = {"0F/F0", "F0/0F", "000/0F0/F00", "000/0F0/00F", "00F/0F0/000", "F00/0F0/000",
            "00000000/0000000F/000000F0"};
        for (String text : diagonal) {
            Bounds.same("apart with 4: " + text, Bounds.treeOf(text).count(3), 2);
            Bounds.same("together with 8: " + text, Bounds.eightTreeOf(text).count(3), 1);
        }
    }

    /** What has been found out about one image must not show in the tree of the next one. */
    private static void oneShapeAfterTheOther() {
        Bounds.says(2, "An image has 1 to 8 columns and 1 to 8 rows.");
        for (int columns = 1; columns <= 8; columns++) {
            for (int next = 1; next <= 8; next++) {
                ComponentTree asked = ofColumns(columns);
                asked.digest();
                ComponentTree unasked = ofColumns(columns);
                String text = textOf(next);
                Bounds.type(asked, text);
                asked.load();
                Bounds.type(unasked, text);
                unasked.load();
                Bounds.same("from " + columns + " to " + next + " columns", asked.digest(), unasked.digest());
            }
        }
    }

    private static ComponentTree ofColumns(int columns) {
        ComponentTree tree = new ComponentTree();
        tree.begin(columns, 8);
        return tree;
    }

    private static String textOf(int columns) {
        StringBuilder text = new StringBuilder();
        for (int pixel = 0; pixel < columns * 8; pixel++) {
            text.append(pixel > 0 && pixel % columns == 0 ? "/" : "").append(pixel * pixel * 7 / 5 % 4);
        }
        return text.toString();
    }

    private static void undo() {
        Bounds.says(13, "Throws IllegalStateException if none is kept");
        Bounds.refusesIn(Bounds.State.FRESH, "undo()", Bounds.STATE, tree -> tree.undo());
        for (Bounds.State state : Bounds.State.values()) {
            ComponentTree tree = state.make();
            for (int left = tree.count(7); left > 0; left--) {
                tree.undo();
            }
            Bounds.refuses(tree, "undo() with none left, " + state, Bounds.STATE, same -> same.undo());
            Bounds.refuses(tree, "undo() again", Bounds.STATE, same -> same.undo());
            tree.setLevel(0, 5);
            Bounds.same("undo() of the next step", tree.undo(), 0);
            Bounds.refuses(tree, "undo() behind it", Bounds.STATE, same -> same.undo());
        }
        Bounds.says(13, "Returns how many saved images are left.");
        ComponentTree full = Bounds.State.FULL.make();
        for (int left = 7; left >= 0; left--) {
            Bounds.same("undo()", full.undo(), left);
            Bounds.same("count(7)", full.count(7), left);
        }
        Bounds.says(13, "The connectivity and the kind of the tree stay.");
        ComponentTree tree = Bounds.treeOf("0F/F0");
        tree.setEight(true);
        tree.setLevel(0, 1);
        tree.setDark(true);
        tree.undo();
        Bounds.same("it stays dark", tree.setDark(false), true);
        Bounds.same("it stays 8", tree.setEight(false), true);
        tree.undo();
        Bounds.same("it stays bright", tree.setDark(false), false);
        Bounds.same("it stays 4", tree.setEight(false), false);
        undoBringsBack();
    }

    private static void undoBringsBack() {
        Bounds.says(13, "Takes the latest step back whose image is kept: the image with its markers becomes as it was "
                + "saved, and the saved one is discarded.");
        ComponentTree tree = Bounds.treeOf("12345678/12345678/12345678/12345678/12345678/12345678/12345678/1234567F");
        tree.setMarker(63, 6);
        tree.begin(1, 1);
        tree.setMarker(0, 9);
        tree.begin(2, 1);
        tree.setMarker(1, 3);
        Bounds.same("undo() to one pixel", tree.undo(), 2);
        Bounds.same("its marker", tree.marker(0), 9);
        Bounds.refuses(tree, "level(1)", Bounds.INDEX, same -> same.level(1));
        Bounds.same("undo() to the largest image", tree.undo(), 1);
        Bounds.same("its last marker", tree.marker(63), 6);
        Bounds.same("its first marker", tree.marker(0), 0);
        Bounds.same("its last level", tree.level(63), 15);
        Bounds.same("its sum", tree.count(6), 8 * 36 + 7);
        Bounds.says(13, "Before a step the image with its markers is saved.");
        tree.setLevel(63, 0);
        tree.setMarker(63, 1);
        tree.markAll();
        tree.undo();
        Bounds.same("the marker of the saved image", tree.marker(63), 6);
        Bounds.same("another one", tree.marker(1), 0);
        Bounds.same("the buffer stays", tree.append('1'), 1);
        tree.undo();
        Bounds.same("the buffer stays, also by the undo of a load", tree.clearInput(), 1);
    }

    private static void undoAtTheLimit() {
        Bounds.says(13, "At most 8 saved images are kept; when a ninth one comes, the oldest one is discarded.");
        for (int steps = 0; steps <= 15; steps++) {
            ComponentTree tree = new ComponentTree();
            for (int level = 1; level <= steps; level++) {
                tree.setLevel(0, level);
            }
            int saved = Math.min(8, steps);
            Bounds.same("count(7) after " + steps + " steps", tree.count(7), saved);
            for (int left = saved - 1; left >= 0; left--) {
                Bounds.same("undo()", tree.undo(), left);
                Bounds.same("level(0)", tree.level(0), steps - saved + left);
            }
            Bounds.refuses(tree, "undo() of a discarded one", Bounds.STATE, same -> same.undo());
        }
        stepsAndUndosInTurn();
    }

    /** Goes several times round any ring in which the images may be kept. */
    private static void stepsAndUndosInTurn() {
        ComponentTree tree = new ComponentTree();
        ArrayDeque<Integer> saved = new ArrayDeque<>();
        int level = 0;
        for (int index = 0; index < 150; index++) {
            boolean back = index % 11 > 6 || index % 7 == 3;
            if (back && !saved.isEmpty()) {
                level = saved.removeLast();
                Bounds.same("undo()", tree.undo(), saved.size());
            } else {
                saved.addLast(level);
                if (saved.size() > 8) {
                    saved.removeFirst();
                }
                tree.setLevel(0, index % 16);
                level = index % 16;
            }
            Bounds.same("level(0)", tree.level(0), level);
        }
    }

    private static void noCallOfThemIsAStep() {
        Bounds.says(13, "Each call of begin, setLevel, fill, load, filter, reconstruct, suppress, keepPeaks and "
                + "complement that throws no exception is a step, also if nothing changes by it.");
        Bounds.isNoStep("setMarker(0, 3)", tree -> tree.setMarker(0, 3));
        Bounds.isNoStep("markAll()", tree -> tree.markAll());
        Bounds.isNoStep("setDark(true)", tree -> tree.setDark(true));
        Bounds.isNoStep("setDark(false)", tree -> tree.setDark(false));
        Bounds.isNoStep("setEight(true)", tree -> tree.setEight(true));
        Bounds.isNoStep("clearInput()", tree -> tree.clearInput());
        Bounds.isNoStep("append('1')", tree -> {
            tree.clearInput();
            tree.append('1');
        });
        Bounds.changesNothing("level(0)", tree -> tree.level(0));
        Bounds.changesNothing("marker(0)", tree -> tree.marker(0));
        Bounds.changesNothing("difference()", tree -> tree.difference());
        Bounds.isStep("begin(1, 1)", tree -> tree.begin(1, 1));
        Bounds.isStep("setLevel(0, level(0))", tree -> tree.setLevel(0, tree.level(0)));
        Bounds.isStep("fill(0, 0, level(0))", tree -> tree.fill(0, 0, tree.level(0)));
        Bounds.isStep("load()", tree -> {
            tree.clearInput();
            Bounds.type(tree, "0");
            tree.load();
        });
        Bounds.isStep("filter(1, 0, 0)", tree -> tree.filter(1, 0, 0));
        Bounds.isStep("reconstruct()", tree -> tree.reconstruct());
        Bounds.isStep("suppress(0)", tree -> tree.suppress(0));
        Bounds.isStep("keepPeaks(64)", tree -> tree.keepPeaks(64));
        Bounds.isStep("complement()", tree -> tree.complement());
    }

    private static void refusedCallsAreNoSteps() {
        Bounds.says(13, "A call that throws an exception changes nothing.");
        Bounds.refuses("begin(9, 1)", Bounds.ARGUMENT, tree -> tree.begin(9, 1));
        Bounds.refuses("setLevel(0, 16)", Bounds.ARGUMENT, tree -> tree.setLevel(0, 16));
        Bounds.refuses("fill(0, 64, 1)", Bounds.INDEX, tree -> tree.fill(0, 64, 1));
        Bounds.refuses("load()", Bounds.STATE, tree -> tree.load());
        Bounds.refuses("filter(1, 1000, 0)", Bounds.ARGUMENT, tree -> tree.filter(1, 1000, 0));
        Bounds.refuses("suppress(16)", Bounds.ARGUMENT, tree -> tree.suppress(16));
        Bounds.refuses("keepPeaks(65)", Bounds.ARGUMENT, tree -> tree.keepPeaks(65));
    }

    /** An object is used for at most 512 calls; the last of them is answered as all others. */
    private static void theLastCall() {
        Bounds.says(13, "At most 8 saved images are kept; when a ninth one comes, the oldest one is discarded.");
        ComponentTree tree = new ComponentTree();
        for (int call = 1; call <= 503; call++) {
            tree.setLevel(0, call % 16);
        }
        for (int left = 7; left >= 0; left--) {
            Bounds.same("undo()", tree.undo(), left);
        }
        Bounds.same("level(0), the 512th call", tree.level(0), 495 % 16);
    }
}
