import java.util.Random;

/** Runs of calls with fixed seeds, each answer compared with the document's words (Oracle). */
final class RandomRunsTest {
    private static final int RUNS = 160;
    private static final int CALLS = 250;
    private static final int KINDS = 37;

    private final Random random;
    private final ComponentTree tree = new ComponentTree();
    private final Oracle oracle = new Oracle();
    private String call = "";
    private int nodesBefore = 0;
    private int leavesBefore = 0;

    private RandomRunsTest(long seed) {
        random = new Random(seed);
    }

    public static void main(String[] args) {
        for (int run = 0; run < RUNS; run++) {
            new RandomRunsTest(run).run(run);
        }
        Check.end();
    }

    private void run(int run) {
        for (int index = 0; index < CALLS; index++) {
            int kind = random.nextInt(KINDS);
            if (index % 40 == 0) {
                loadSomething();
            }
            long seed = random.nextLong();
            // Both sides draw the same arguments, also if the first one changes the image.
            nodesBefore = tree.count(2);
            leavesBefore = tree.count(3);
            String got = answer(true, kind, new Random(seed));
            String due = answer(false, kind, new Random(seed));
            Check.same("run " + run + ", call " + index + ": " + call, got, due);
            if (index % 8 == 7) {
                Check.same("run " + run + ", after " + call + ": digest()", tree.digest(), oracle.digest());
            }
        }
    }

    /** Puts an image with few or many levels and of any size into both, by its text. */
    private void loadSomething() {
        int columns = random.nextInt(3) == 0 ? 8 : 1 + random.nextInt(8);
        int rows = random.nextInt(3) == 0 ? 8 : 1 + random.nextInt(8);
        int levels = 2 + random.nextInt(random.nextBoolean() ? 3 : 15);
        int least = random.nextInt(17 - levels);
        int plainness = random.nextInt(4);
        tree.clearInput();
        oracle.clearInput();
        for (int row = 0; row < rows; row++) {
            if (row > 0) {
                both('/');
            }
            for (int column = 0; column < columns; column++) {
                int level = random.nextInt(4) < plainness ? 0 : random.nextInt(levels);
                both("0123456789ABCDEF".charAt(least + level));
            }
        }
        Check.same("load()", tree.load(), oracle.load());
    }

    private void both(char code) {
        Check.same("append", tree.append(code), oracle.append(code));
    }

    private String answer(boolean own, int kind, Random source) {
        try {
            if (kind < 15) {
                return imageCall(own, kind, source);
            }
            if (kind < 26) {
                return treeCall(own, kind, source);
            }
            return filterCall(own, kind, source);
        } catch (IndexOutOfBoundsException | IllegalArgumentException | IllegalStateException thrown) {
            return thrown.getClass().getName();
        }
    }

    /** A number from 0 to most, and now and then one beside this range. */
    private static int some(Random source, int most) {
        int luck = source.nextInt(60);
        if (luck == 0) {
            return -1;
        }
        if (luck == 1) {
            return most + 1;
        }
        if (luck == 2) {
            return source.nextInt();
        }
        return source.nextInt(most + 1);
    }

    private int pixel(Random source) {
        return some(source, oracle.image.levels.length - 1);
    }

    private int node(Random source) {
        return some(source, nodesBefore - 1);
    }

    private int filterAttribute(Random source) {
        int[] good = {1, 5, 6, 7, 8, 9, 10, 11};
        return source.nextInt(30) == 0 ? some(source, 12) : good[source.nextInt(good.length)];
    }

    private int filterThreshold(Random source) {
        int[] most = {3, 10, 40, 999};
        return some(source, most[source.nextInt(most.length)]);
    }

    private int bound(Random source) {
        int[] most = {0, 20, 200, 999};
        return some(source, most[source.nextInt(most.length)]);
    }

    private String tell(String name, int... arguments) {
        StringBuilder told = new StringBuilder(name).append('(');
        for (int index = 0; index < arguments.length; index++) {
            told.append(index == 0 ? "" : ", ").append(arguments[index]);
        }
        call = told.append(')').toString();
        return call;
    }

    private String imageCall(boolean own, int kind, Random source) {
        int a = pixel(source);
        int b = pixel(source);
        int c = some(source, 15);
        switch (kind) {
            case 0:
                if (source.nextInt(4) > 0) {
                    return "";
                }
                int columns = 1 + some(source, 7);
                int rows = 1 + some(source, 7);
                tell("begin", columns, rows);
                return "" + (own ? tree.begin(columns, rows) : oracle.begin(columns, rows));
            case 1:
            case 2:
                tell("setLevel", a, c);
                return "" + (own ? tree.setLevel(a, c) : oracle.setLevel(a, c));
            case 3:
                tell("fill", a, b, c);
                return "" + (own ? tree.fill(a, b, c) : oracle.fill(a, b, c));
            case 4:
                tell("complement");
                return "" + (own ? tree.complement() : oracle.complement());
            case 5:
            case 6:
                tell("setMarker", a, c);
                return "" + (own ? tree.setMarker(a, c) : oracle.setMarker(a, c));
            case 7:
                tell("markAll");
                return "" + (own ? tree.markAll() : oracle.markAll());
            case 8:
                tell("level", a);
                return "" + (own ? tree.level(a) : oracle.level(a));
            case 9:
                tell("marker", a);
                return "" + (own ? tree.marker(a) : oracle.marker(a));
            case 10:
                tell("difference");
                return "" + (own ? tree.difference() : oracle.difference());
            case 11:
                boolean dark = source.nextBoolean();
                tell("setDark", dark ? 1 : 0);
                return "" + (own ? tree.setDark(dark) : oracle.setDark(dark));
            case 12:
                boolean eight = source.nextBoolean();
                tell("setEight", eight ? 1 : 0);
                return "" + (own ? tree.setEight(eight) : oracle.setEight(eight));
            case 13:
                tell("undo");
                return "" + (own ? tree.undo() : oracle.undo());
            default:
                return inputCall(own, source);
        }
    }

    private String inputCall(boolean own, Random source) {
        int code = source.nextInt(5) == 0 ? 31 + source.nextInt(97) : "0123456789ABCDEF/////".charAt(source.nextInt(21));
        switch (source.nextInt(6)) {
            case 0:
                tell("load");
                return "" + (own ? tree.load() : oracle.load());
            case 1:
                tell("clearInput");
                return "" + (own ? tree.clearInput() : oracle.clearInput());
            default:
                tell("append and firstError", code);
                return own ? tree.append(code) + " " + tree.firstError() : oracle.append(code) + " " + oracle.firstError();
        }
    }

    private String treeCall(boolean own, int kind, Random source) {
        int pixel = pixel(source);
        int other = pixel(source);
        int node = node(source);
        int second = node(source);
        switch (kind) {
            case 15:
                int what = some(source, 7);
                tell("count", what);
                return "" + (own ? tree.count(what) : oracle.count(what));
            case 16:
                tell("nodeOf", pixel);
                return "" + (own ? tree.nodeOf(pixel) : oracle.nodeOf(pixel));
            case 17:
                int attribute = some(source, 11);
                tell("attribute", node, attribute);
                return "" + (own ? tree.attribute(node, attribute) : oracle.attribute(node, attribute));
            case 18:
                tell("meanRank", node);
                return "" + (own ? tree.meanRank(node) : oracle.meanRank(node));
            case 19:
                tell("contains", node, pixel);
                return "" + (own ? tree.contains(node, pixel) : oracle.contains(node, pixel));
            case 20:
                int index = some(source, 2);
                tell("child", node, index);
                return "" + (own ? tree.child(node, index) : oracle.child(node, index));
            case 21:
                int place = some(source, leavesBefore - 1);
                tell("leaf", place);
                return "" + (own ? tree.leaf(place) : oracle.leaf(place));
            case 22:
                tell("prominence", node);
                return "" + (own ? tree.prominence(node) : oracle.prominence(node));
            case 23:
                int rank = some(source, 15);
                tell("component", pixel, rank);
                return "" + (own ? tree.component(pixel, rank) : oracle.component(pixel, rank));
            case 24:
                tell("meet", pixel, other);
                return "" + (own ? tree.meet(pixel, other) : oracle.meet(pixel, other));
            default:
                tell("distance", node, second);
                return "" + (own ? tree.distance(node, second) : oracle.distance(node, second));
        }
    }

    private String filterCall(boolean own, int kind, Random source) {
        int pixel = pixel(source);
        int node = node(source);
        int attribute = filterAttribute(source);
        int threshold = filterThreshold(source);
        int rule = some(source, 3);
        switch (kind) {
            case 26:
            case 27:
                tell("verdict", node, attribute, threshold, rule);
                return "" + (own ? tree.verdict(node, attribute, threshold, rule)
                        : oracle.verdict(node, attribute, threshold, rule));
            case 28:
            case 29:
                tell("filtered", pixel, attribute, threshold, rule);
                return "" + (own ? tree.filtered(pixel, attribute, threshold, rule)
                        : oracle.filtered(pixel, attribute, threshold, rule));
            case 30:
            case 31:
                tell("loss", attribute, threshold, rule);
                return "" + (own ? tree.loss(attribute, threshold, rule) : oracle.loss(attribute, threshold, rule));
            case 32:
                int bound = bound(source);
                tell("threshold", attribute, bound);
                return "" + (own ? tree.threshold(attribute, bound) : oracle.threshold(attribute, bound));
            case 33:
                int level = some(source, 15);
                int what = 2 + some(source, 2);
                tell("ifLevel", pixel, level, what);
                return "" + (own ? tree.ifLevel(pixel, level, what) : oracle.ifLevel(pixel, level, what));
            default:
                return changeCall(own, source, attribute, threshold, rule);
        }
    }

    private String changeCall(boolean own, Random source, int attribute, int threshold, int rule) {
        switch (source.nextInt(8)) {
            case 0:
            case 1:
                tell("filter", attribute, threshold, rule);
                return "" + (own ? tree.filter(attribute, threshold, rule) : oracle.filter(attribute, threshold, rule));
            case 2:
            case 3:
                tell("reconstruct");
                return "" + (own ? tree.reconstruct() : oracle.reconstruct());
            case 4:
            case 5:
                int height = some(source, source.nextBoolean() ? 4 : 15);
                tell("suppress", height);
                return "" + (own ? tree.suppress(height) : oracle.suppress(height));
            default:
                int many = some(source, source.nextBoolean() ? 4 : 64);
                tell("keepPeaks", many);
                return "" + (own ? tree.keepPeaks(many) : oracle.keepPeaks(many));
        }
    }
}
