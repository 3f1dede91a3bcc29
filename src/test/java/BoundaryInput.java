/** The boundary cases of the promises 14 to 17: the input buffer and its texts. */
final class BoundaryInput {
    private static final String LEVELS = "0123456789ABCDEF";
    private static final String EIGHT_ROWS = "0/1/2/3/4/5/6/7";
    private static final String LONGEST = "01234567/89ABCDEF/01234567/89ABCDEF/01234567/89ABCDEF/01234567/89ABCDEF";

    private BoundaryInput() {
    }

    static void all() {
        append();
        clearInput();
        signs();
        tooLongRows();
        slashes();
        firstOfSeveral();
        load();
        loadIsRefused();
        loadReplaces();
    }

    private static ComponentTree typed(String text) {
        ComponentTree tree = new ComponentTree();
        Bounds.type(tree, text);
        return tree;
    }

    private static void append() {
        Bounds.says(14, "Throws IllegalArgumentException if code is not 32 to 126");
        Bounds.noArgument("append(#)", 32, 126, (tree, code) -> tree.append(code));
        ComponentTree tree = new ComponentTree();
        Bounds.same("append(32)", tree.append(32), 1);
        Bounds.same("append(126)", tree.append(126), 2);
        Bounds.same("clearInput()", tree.clearInput(), 2);
        for (int code = 32; code <= 126; code++) {
            Bounds.same("append(" + code + ")", tree.append(code), 1);
            tree.clearInput();
        }
        Bounds.says(14, "Throws IllegalStateException if the buffer has 72 characters");
        Bounds.refusesIn(Bounds.State.FULL, "append(48)", Bounds.STATE, same -> same.append(48));
        Bounds.refusesIn(Bounds.State.FULL, "append(32)", Bounds.STATE, same -> same.append(32));
        Bounds.refusesIn(Bounds.State.FULL, "append(126)", Bounds.STATE, same -> same.append(126));
        Bounds.says(14, "If several exceptions apply, the one that is named first in the throws clause is thrown.");
        Bounds.refusesIn(Bounds.State.FULL, "append(31)", Bounds.ARGUMENT, same -> same.append(31));
        Bounds.refusesIn(Bounds.State.FULL, "append(127)", Bounds.ARGUMENT, same -> same.append(127));
        Bounds.says(14, "The input buffer has at most 72 characters.");
        Bounds.says(14, "Returns the new length of the buffer.");
        for (int length = 1; length <= 72; length++) {
            Bounds.same("append(65)", tree.append(65), length);
        }
        Bounds.refuses(tree, "append(65), the 73rd", Bounds.STATE, same -> same.append(65));
        Bounds.same("clearInput()", tree.clearInput(), 72);
        Bounds.same("append(65) to the empty buffer", tree.append(65), 1);
    }

    private static void clearInput() {
        Bounds.says(15, "Clears the input buffer.");
        ComponentTree tree = Bounds.State.FULL.make();
        tree.clearInput();
        Bounds.same("append(49)", tree.append(49), 1);
        Bounds.same("firstError(), without what stood there", tree.firstError(), 1);
        Bounds.same("load()", tree.load(), 1);
        Bounds.same("level(0)", tree.level(0), 1);
        Bounds.says(15, "Returns the length that it had.");
        ComponentTree other = new ComponentTree();
        Bounds.same("clearInput() of an empty buffer", other.clearInput(), 0);
        other.append(47);
        Bounds.same("clearInput() of one character", other.clearInput(), 1);
        Bounds.same("clearInput() again", other.clearInput(), 0);
        Bounds.same("clearInput() of a full buffer", Bounds.State.FULL.make().clearInput(), 72);
        Bounds.changesNothing("clearInput() and the same text", same -> {
            int length = same.clearInput();
            if (length == 3) {
                Bounds.type(same, "1F/");
            }
            if (length == 72) {
                Bounds.type(same, "12121212/2F0F0F21/10343412/2F4A4F21/10343412/2F0F0F21/17777712/2121210C0");
            }
        });
    }

    private static void error(String text, int due) {
        ComponentTree tree = typed(text);
        Bounds.same("firstError() of " + text, tree.firstError(), due);
        Bounds.same("firstError() of " + text + " again", tree.firstError(), due);
        Bounds.same("the text stays", tree.clearInput(), text.length());
    }

    private static void signs() {
        Bounds.says(16, "An image is written as 1 to 8 rows, from the top, with a slash between two rows; a row is "
                + "written as 1 to 8 levels, each a digit \"0\" to \"9\" or a letter \"A\" to \"F\" for 10 to 15, and "
                + "all rows have the same length.");
        for (char code = 32; code <= 126; code++) {
            int good = LEVELS.indexOf(code) >= 0 ? 1 : 0;
            error("" + code, good);
            error("1" + code, 1 + (good == 1 || code == '/' ? 1 : 0));
            error("12/" + code, 3 + good);
            error("12/3" + code, 4 + good);
            error("1/" + code, 2 + good);
        }
        for (int level = 0; level <= 15; level++) {
            ComponentTree tree = typed("" + LEVELS.charAt(level));
            tree.load();
            Bounds.same("the level of " + LEVELS.charAt(level), tree.level(0), level);
        }
        Bounds.says(16, "Returns the index of the first character that is a syntax error; the length of the buffer if "
                + "there is none.");
        error("", 0);
        error("0", 1);
        error("12/", 3);
        error("12/3", 4);
        error(EIGHT_ROWS, 15);
        error(LONGEST, 71);
        Bounds.changesNothing("firstError()", tree -> tree.firstError());
        Bounds.same("firstError() of a full buffer", Bounds.State.FULL.make().firstError(), 71);
    }

    private static void tooLongRows() {
        Bounds.says(16, "In particular, a ninth level of a row, a level beyond the length of the first row, a slash "
                + "after a row that is empty or shorter than the first row, and an eighth slash are errors.");
        for (int level = 0; level <= 15; level++) {
            error("01234567" + LEVELS.charAt(level), 8);
            error("01234567/01234567" + LEVELS.charAt(level), 17);
            error(LONGEST + LEVELS.charAt(level), 71);
        }
        for (int columns = 1; columns <= 8; columns++) {
            String row = LEVELS.substring(0, columns);
            error(row, columns);
            error(row + "/" + row, 2 * columns + 1);
            error(row + "/" + row + "0", 2 * columns + 1);
            error(row + "/" + row + "/" + row + "0/", 3 * columns + 2);
        }
    }

    private static void slashes() {
        error("/", 0);
        error("//", 0);
        error("/1", 0);
        error("1//", 2);
        error("12/34//", 6);
        for (int columns = 2; columns <= 8; columns++) {
            String row = LEVELS.substring(0, columns);
            for (int shorter = 0; shorter < columns; shorter++) {
                String part = row.substring(0, shorter);
                error(row + "/" + part + "/", columns + 1 + shorter);
                error(row + "/" + row + "/" + part + "/" + row, 2 * columns + 2 + shorter);
            }
        }
        error(EIGHT_ROWS + "/", 15);
        error(EIGHT_ROWS + "/8", 15);
        error("0/1/2/3/4/5/6/", 14);
        error(LONGEST + "/", 71);
        for (char code = 32; code <= 126; code++) {
            error(LONGEST + code, 71);
        }
    }

    private static void firstOfSeveral() {
        Bounds.says(16, "The buffer is read from left to right, and a character that these rules do not allow at its "
                + "place is a syntax error.");
        error("1x/y", 1);
        error("12/3x4/z", 4);
        error("1 2", 1);
        error(" 12", 0);
        error("12 ", 2);
        error("123456789//", 8);
        error("a1", 0);
        error("1/22/x", 3);
        error("12/3/45//", 4);
    }

    private static void loads(String text) {
        ComponentTree tree = Bounds.State.FULL.make();
        tree.clearInput();
        Bounds.type(tree, text);
        Bounds.same("load() of " + text, tree.load(), text.replace("/", "").length());
        Bounds.looks("the image of " + text, tree, text);
        Bounds.same("the buffer is empty", tree.clearInput(), 0);
    }

    private static void load() {
        Bounds.says(17, "An image is written as 1 to 8 rows, from the top, with a slash between two rows; a row is "
                + "written as 1 to 8 levels, each a digit \"0\" to \"9\" or a letter \"A\" to \"F\" for 10 to 15, and "
                + "all rows have the same length.");
        Bounds.says(17, "Replaces the image by the one in the buffer, and clears the buffer.");
        loads("0");
        loads("F");
        loads("01234567");
        loads(EIGHT_ROWS);
        loads("9A/BC");
        for (int columns = 1; columns <= 8; columns++) {
            for (int rows = 1; rows <= 8; rows++) {
                loads(textOf(columns, rows));
            }
        }
        ComponentTree tree = new ComponentTree();
        Bounds.type(tree, LONGEST);
        Bounds.same("load() of the longest text", tree.load(), 64);
        Bounds.looks("its image", tree, LONGEST);
    }

    private static String textOf(int columns, int rows) {
        StringBuilder text = new StringBuilder();
        for (int pixel = 0; pixel < columns * rows; pixel++) {
            text.append(pixel > 0 && pixel % columns == 0 ? "/" : "").append(LEVELS.charAt((pixel * 7 + 9) % 16));
        }
        return text.toString();
    }

    private static void loadIsRefused() {
        Bounds.says(17, "Throws IllegalStateException if the buffer is not an image");
        Bounds.refuses("load()", Bounds.STATE, tree -> tree.load());
        Bounds.says(17, "A buffer without a syntax error is an image if it is not empty, and its last row is as long as "
                + "the first one and not empty.");
        String[] texts = {
            "", "/", " ", "G", "a", "1/", "12/", "12/3", "12/34/", "12/34/5", "12345678/1234567", "1//2", "12/345",
            "123/12/123", "012345678", EIGHT_ROWS + "/", EIGHT_ROWS + "/8", "12/34 ", " 12/34", "1x2",
            LONGEST + "0", LONGEST + "/", LONGEST + " ", LONGEST.substring(0, 70), LONGEST.substring(0, 63)
        };
        for (String text : texts) {
            ComponentTree tree = typed(text);
            Bounds.refuses(tree, "load() of " + text, Bounds.STATE, same -> same.load());
            Bounds.same("no step", tree.count(7), 0);
            Bounds.same("the buffer stays", tree.clearInput(), text.length());
        }
        ComponentTree tree = typed("12/3");
        Bounds.refuses(tree, "load() of 12/3", Bounds.STATE, same -> same.load());
        tree.append('4');
        Bounds.same("load() of 12/34", tree.load(), 4);
        Bounds.refuses(tree, "load() of the cleared buffer", Bounds.STATE, same -> same.load());
    }

    private static void loadReplaces() {
        Bounds.says(17, "All markers are 0 then.");
        for (Bounds.State state : Bounds.State.values()) {
            ComponentTree tree = state.make();
            tree.clearInput();
            tree.markAll();
            tree.setMarker(0, 15);
            Bounds.type(tree, "00000000/00000000/00000000/00000000/00000000/00000000/00000000/00000000");
            tree.load();
            Bounds.same("the markers, " + state, tree.difference(), 0);
        }
        Bounds.says(17, "This is a step.");
        Bounds.isStep("load()", tree -> {
            tree.clearInput();
            Bounds.type(tree, "12/34");
            tree.load();
        });
        Bounds.isStep("load() of the same image", tree -> {
            tree.clearInput();
            Bounds.type(tree, Bounds.levelsOf(tree));
            tree.load();
        });
        Bounds.says(17, "Replaces the image by the one in the buffer, and clears the buffer.");
        ComponentTree tree = Bounds.treeOf("12/34");
        Bounds.same("the buffer is empty", tree.clearInput(), 0);
        tree.undo();
        Bounds.same("it stays empty by an undo", tree.clearInput(), 0);
        tree.setDark(true);
        tree.setEight(true);
        Bounds.type(tree, "1");
        tree.load();
        Bounds.same("it stays dark", tree.setDark(true), true);
        Bounds.same("it stays 8", tree.setEight(true), true);
    }
}
