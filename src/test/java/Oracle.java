import java.util.ArrayDeque;
import java.util.ArrayList;
import java.util.Comparator;
import java.util.List;
import java.util.TreeSet;

/**
 * The document word by word, as sets of pixels and without any short cut: what ComponentTree
 * answers is compared with it. It makes everything anew for each call.
 */
final class Oracle {
    /** An image with its markers. */
    static final class Image {
        int columns = 1;
        int rows = 1;
        int[] levels = new int[1];
        int[] markers = new int[1];

        Image copy() {
            Image image = new Image();
            image.columns = columns;
            image.rows = rows;
            image.levels = levels.clone();
            image.markers = markers.clone();
            return image;
        }

        static Image blank(int columns, int rows) {
            Image image = new Image();
            image.columns = columns;
            image.rows = rows;
            image.levels = new int[columns * rows];
            image.markers = new int[columns * rows];
            return image;
        }

        boolean areNeighbors(int first, int second, boolean diagonal) {
            int across = Math.abs(first % columns - second % columns);
            int down = Math.abs(first / columns - second / columns);
            return across + down == 1 || (diagonal && across == 1 && down == 1);
        }

        TreeSet<Integer> connected(int seed, TreeSet<Integer> within, boolean diagonal) {
            TreeSet<Integer> reached = new TreeSet<>();
            ArrayDeque<Integer> open = new ArrayDeque<>();
            reached.add(seed);
            open.add(seed);
            while (!open.isEmpty()) {
                int pixel = open.remove();
                for (int other : within) {
                    if (areNeighbors(pixel, other, diagonal) && reached.add(other)) {
                        open.add(other);
                    }
                }
            }
            return reached;
        }

        List<TreeSet<Integer>> parts(TreeSet<Integer> set, boolean diagonal) {
            List<TreeSet<Integer>> parts = new ArrayList<>();
            TreeSet<Integer> rest = new TreeSet<>(set);
            while (!rest.isEmpty()) {
                TreeSet<Integer> part = connected(rest.first(), rest, diagonal);
                parts.add(part);
                rest.removeAll(part);
            }
            return parts;
        }
    }

    /** A node of a tree. */
    static final class Node {
        int number;
        int rank;
        TreeSet<Integer> pixels;
        Node parent;
        List<Node> children = new ArrayList<>();

        boolean isAbove(Node other) {
            return other != this && pixels.containsAll(other.pixels);
        }

        boolean isHigher(Node other) {
            return rank > other.rank || (rank == other.rank && number < other.number);
        }
    }

    /** The tree of an image. */
    static final class Tree {
        final Image image;
        final boolean dark;
        final boolean eight;
        final List<Node> nodes = new ArrayList<>();

        Tree(Image image, boolean dark, boolean eight) {
            this.image = image;
            this.dark = dark;
            this.eight = eight;
            for (int t = 0; t <= 15; t++) {
                for (TreeSet<Integer> part : image.parts(withRank(t), eight)) {
                    boolean just = false;
                    for (int pixel : part) {
                        just |= rank(pixel) == t;
                    }
                    if (just) {
                        Node node = new Node();
                        node.rank = t;
                        node.pixels = part;
                        nodes.add(node);
                    }
                }
            }
            nodes.sort(Comparator.<Node>comparingInt(n -> n.rank).thenComparingInt(n -> n.pixels.first()));
            for (int number = 0; number < nodes.size(); number++) {
                nodes.get(number).number = number;
            }
            for (Node node : nodes) {
                for (Node other : nodes) {
                    if (other.isAbove(node)
                            && (node.parent == null || other.pixels.size() < node.parent.pixels.size())) {
                        node.parent = other;
                    }
                }
            }
            for (Node node : nodes) {
                if (node.parent != null) {
                    node.parent.children.add(node);
                }
            }
        }

        int turn(int value) {
            return dark ? 15 - value : value;
        }

        int rank(int pixel) {
            return turn(image.levels[pixel]);
        }

        TreeSet<Integer> withRank(int least) {
            TreeSet<Integer> set = new TreeSet<>();
            for (int pixel = 0; pixel < image.levels.length; pixel++) {
                if (rank(pixel) >= least) {
                    set.add(pixel);
                }
            }
            return set;
        }

        Node nodeOf(int pixel) {
            return smallestWith(pixel, pixel);
        }

        Node smallestWith(int first, int second) {
            Node found = null;
            for (Node node : nodes) {
                if (node.pixels.contains(first) && node.pixels.contains(second)
                        && (found == null || node.pixels.size() < found.pixels.size())) {
                    found = node;
                }
            }
            return found;
        }

        List<Node> leaves() {
            List<Node> leaves = new ArrayList<>();
            for (Node node : nodes) {
                if (node.children.isEmpty()) {
                    leaves.add(node);
                }
            }
            leaves.sort(Comparator.<Node>comparingInt(n -> -prominence(n)).thenComparingInt(n -> n.number));
            return leaves;
        }

        int prominence(Node leaf) {
            for (Node above = leaf.parent; above != null; above = above.parent) {
                for (Node other : nodes) {
                    if (other.children.isEmpty() && above.isAbove(other) && other.isHigher(leaf)) {
                        return leaf.rank - above.rank;
                    }
                }
            }
            return leaf.rank + 1;
        }

        int way(Node node) {
            int longest = 0;
            for (Node child : node.children) {
                longest = Math.max(longest, way(child));
            }
            return longest + 1;
        }

        int number(int what) {
            return what == 2 ? nodes.size() : what == 3 ? leaves().size() : way(nodes.get(0));
        }

        int attribute(Node node, int attribute) {
            switch (attribute) {
                case 0:
                    return node.rank;
                case 1:
                    return node.pixels.size();
                case 2:
                    return own(node);
                case 3:
                    return node.parent == null ? -1 : node.parent.number;
                case 4:
                    return node.children.size();
                case 5:
                    return height(node);
                case 6:
                    return volume(node);
                case 7:
                    return extent(node, true);
                case 8:
                    return extent(node, false);
                case 9:
                    return perimeter(node);
                case 10:
                    return holes(node);
                default:
                    return greatestProminence(node);
            }
        }

        private int own(Node node) {
            int own = 0;
            for (int pixel = 0; pixel < image.levels.length; pixel++) {
                own += nodeOf(pixel) == node ? 1 : 0;
            }
            return own;
        }

        private int height(Node node) {
            int greatest = 0;
            for (int pixel : node.pixels) {
                greatest = Math.max(greatest, rank(pixel));
            }
            return greatest - node.rank;
        }

        private int volume(Node node) {
            int sum = 0;
            for (int pixel : node.pixels) {
                sum += rank(pixel) - node.rank;
            }
            return sum;
        }

        private int extent(Node node, boolean across) {
            int least = 99;
            int most = -1;
            for (int pixel : node.pixels) {
                int place = across ? pixel % image.columns : pixel / image.columns;
                least = Math.min(least, place);
                most = Math.max(most, place);
            }
            return most - least + 1;
        }

        private int perimeter(Node node) {
            int sides = 0;
            int[][] ways = {{0, 1}, {1, 0}, {0, -1}, {-1, 0}};
            for (int pixel : node.pixels) {
                for (int[] way : ways) {
                    int column = pixel % image.columns + way[0];
                    int row = pixel / image.columns + way[1];
                    boolean inside = column >= 0 && column < image.columns && row >= 0 && row < image.rows;
                    sides += inside && node.pixels.contains(row * image.columns + column) ? 0 : 1;
                }
            }
            return sides;
        }

        private int holes(Node node) {
            TreeSet<Integer> outside = withRank(0);
            outside.removeAll(node.pixels);
            int holes = 0;
            for (TreeSet<Integer> part : image.parts(outside, !eight)) {
                boolean atBorder = false;
                for (int pixel : part) {
                    int column = pixel % image.columns;
                    int row = pixel / image.columns;
                    atBorder |= column == 0 || row == 0 || column == image.columns - 1 || row == image.rows - 1;
                }
                holes += atBorder ? 0 : 1;
            }
            return holes;
        }

        private int greatestProminence(Node node) {
            int greatest = 0;
            for (Node leaf : nodes) {
                if (leaf.children.isEmpty() && (leaf == node || node.isAbove(leaf))) {
                    greatest = Math.max(greatest, prominence(leaf));
                }
            }
            return greatest;
        }

        boolean[] passing(int attribute, int threshold) {
            boolean[] passing = new boolean[nodes.size()];
            for (Node node : nodes) {
                passing[node.number] = attribute(node, attribute) >= threshold;
            }
            return passing;
        }

        boolean remains(Node node, boolean[] passing, int rule) {
            if (node.parent == null) {
                return true;
            }
            boolean passes = passing[node.number];
            if (rule == 1) {
                for (Node above = node.parent; above.parent != null; above = above.parent) {
                    passes &= passing[above.number];
                }
            }
            if (rule == 2) {
                for (Node other : nodes) {
                    passes |= node.isAbove(other) && passing[other.number];
                }
            }
            return passes;
        }

        int filteredRank(int pixel, boolean[] passing, int rule) {
            if (rule == 3) {
                int sum = nodes.get(0).rank;
                for (Node node : nodes) {
                    if (node.parent != null && node.pixels.contains(pixel) && remains(node, passing, 3)) {
                        sum += node.rank - node.parent.rank;
                    }
                }
                return sum;
            }
            Node node = nodeOf(pixel);
            while (!remains(node, passing, rule)) {
                node = node.parent;
            }
            return node.rank;
        }

        int loss(boolean[] passing, int rule) {
            int loss = 0;
            for (int pixel = 0; pixel < image.levels.length; pixel++) {
                loss += Math.abs(image.levels[pixel] - turn(filteredRank(pixel, passing, rule)));
            }
            return loss;
        }

        int reconstructedRank(int pixel, int[] markerRanks) {
            for (int t = rank(pixel); t > 0; t--) {
                for (int other : image.connected(pixel, withRank(t), eight)) {
                    if (markerRanks[other] >= t) {
                        return t;
                    }
                }
            }
            return 0;
        }

        int rankWithPeaks(int pixel, List<Node> peaks) {
            for (Node node = nodeOf(pixel); node.parent != null; node = node.parent) {
                for (Node peak : peaks) {
                    if (peak == node || node.isAbove(peak)) {
                        return node.rank;
                    }
                }
            }
            return nodes.get(0).rank;
        }
    }

    Image image = new Image();
    boolean dark = false;
    boolean eight = false;
    final List<Image> saved = new ArrayList<>();
    String text = "";

    private Tree tree() {
        return new Tree(image, dark, eight);
    }

    private void save() {
        saved.add(image.copy());
        if (saved.size() > 8) {
            saved.remove(0);
        }
    }

    private static void index(boolean good) {
        if (!good) {
            throw new IndexOutOfBoundsException();
        }
    }

    private static void argument(boolean good) {
        if (!good) {
            throw new IllegalArgumentException();
        }
    }

    private static void state(boolean good) {
        if (!good) {
            throw new IllegalStateException();
        }
    }

    private void pixel(int pixel) {
        index(pixel >= 0 && pixel < image.levels.length);
    }

    private static Node node(Tree tree, int node) {
        index(node >= 0 && node < tree.nodes.size());
        return tree.nodes.get(node);
    }

    private static void within(int value, int least, int most) {
        argument(value >= least && value <= most);
    }

    private static void filterArguments(int attribute, int threshold, int rule) {
        argument(attribute == 1 || (attribute >= 5 && attribute <= 11));
        within(threshold, 0, 999);
        within(rule, 0, 3);
    }

    private int replace(int[] levels) {
        save();
        int changed = 0;
        for (int pixel = 0; pixel < levels.length; pixel++) {
            changed += levels[pixel] == image.levels[pixel] ? 0 : 1;
        }
        image.levels = levels;
        return changed;
    }

    int begin(int columns, int rows) {
        within(columns, 1, 8);
        within(rows, 1, 8);
        save();
        int before = image.levels.length;
        image = Image.blank(columns, rows);
        return before;
    }

    int setLevel(int pixel, int level) {
        pixel(pixel);
        within(level, 0, 15);
        save();
        int before = image.levels[pixel];
        image.levels[pixel] = level;
        return before;
    }

    int fill(int first, int last, int level) {
        pixel(first);
        pixel(last);
        within(level, 0, 15);
        int[] levels = image.levels.clone();
        for (int pixel = 0; pixel < levels.length; pixel++) {
            int column = pixel % image.columns;
            int row = pixel / image.columns;
            if ((column - first % image.columns) * (column - last % image.columns) <= 0
                    && (row - first / image.columns) * (row - last / image.columns) <= 0) {
                levels[pixel] = level;
            }
        }
        return replace(levels);
    }

    int complement() {
        int[] levels = new int[image.levels.length];
        for (int pixel = 0; pixel < levels.length; pixel++) {
            levels[pixel] = 15 - image.levels[pixel];
        }
        replace(levels);
        return tree().nodes.size();
    }

    int setMarker(int pixel, int marker) {
        pixel(pixel);
        within(marker, 0, 15);
        int before = image.markers[pixel];
        image.markers[pixel] = marker;
        return before;
    }

    int markAll() {
        int changed = 0;
        for (int pixel = 0; pixel < image.levels.length; pixel++) {
            changed += image.markers[pixel] == image.levels[pixel] ? 0 : 1;
        }
        image.markers = image.levels.clone();
        return changed;
    }

    int level(int pixel) {
        pixel(pixel);
        return image.levels[pixel];
    }

    int marker(int pixel) {
        pixel(pixel);
        return image.markers[pixel];
    }

    int difference() {
        int sum = 0;
        for (int pixel = 0; pixel < image.levels.length; pixel++) {
            sum += Math.abs(image.levels[pixel] - image.markers[pixel]);
        }
        return sum;
    }

    boolean setDark(boolean now) {
        boolean before = dark;
        dark = now;
        return before;
    }

    boolean setEight(boolean now) {
        boolean before = eight;
        eight = now;
        return before;
    }

    int undo() {
        state(!saved.isEmpty());
        image = saved.remove(saved.size() - 1);
        return saved.size();
    }

    int append(int code) {
        within(code, 32, 126);
        state(text.length() < 72);
        text += (char) code;
        return text.length();
    }

    int clearInput() {
        int before = text.length();
        text = "";
        return before;
    }

    /** Whether a text is the beginning of an image's text. */
    private static boolean canGoOn(String start) {
        String[] rows = start.split("/", -1);
        boolean good = rows.length <= 8;
        for (int row = 0; row < rows.length; row++) {
            good &= rows[row].matches("[0-9A-F]{0,8}") && rows[row].length() <= rows[0].length();
            if (row < rows.length - 1) {
                good &= rows[row].length() == rows[0].length() && !rows[row].isEmpty();
            }
        }
        return good;
    }

    int firstError() {
        for (int length = 1; length <= text.length(); length++) {
            if (!canGoOn(text.substring(0, length))) {
                return length - 1;
            }
        }
        return text.length();
    }

    int load() {
        state(!text.isEmpty() && firstError() == text.length());
        String[] rows = text.split("/", -1);
        state(rows[rows.length - 1].length() == rows[0].length());
        save();
        image = Image.blank(rows[0].length(), rows.length);
        String levels = text.replace("/", "");
        for (int pixel = 0; pixel < levels.length(); pixel++) {
            image.levels[pixel] = Character.digit(levels.charAt(pixel), 16);
        }
        text = "";
        return levels.length();
    }

    int count(int what) {
        within(what, 0, 7);
        TreeSet<Integer> different = new TreeSet<>();
        int sum = 0;
        for (int level : image.levels) {
            different.add(level);
            sum += level;
        }
        int[] plain = {image.columns, image.rows, 0, 0, 0, different.size(), sum, saved.size()};
        return what >= 2 && what <= 4 ? tree().number(what) : plain[what];
    }

    int nodeOf(int pixel) {
        pixel(pixel);
        return tree().nodeOf(pixel).number;
    }

    int attribute(int node, int attribute) {
        Tree tree = tree();
        Node found = node(tree, node);
        within(attribute, 0, 11);
        return tree.attribute(found, attribute);
    }

    double meanRank(int node) {
        Tree tree = tree();
        Node found = node(tree, node);
        double sum = 0;
        for (int pixel : found.pixels) {
            sum += tree.rank(pixel);
        }
        return sum / found.pixels.size();
    }

    boolean contains(int node, int pixel) {
        Node found = node(tree(), node);
        pixel(pixel);
        return found.pixels.contains(pixel);
    }

    int child(int node, int index) {
        Node found = node(tree(), node);
        index(index >= 0 && index < found.children.size());
        return found.children.get(index).number;
    }

    int leaf(int index) {
        List<Node> leaves = tree().leaves();
        index(index >= 0 && index < leaves.size());
        return leaves.get(index).number;
    }

    int prominence(int node) {
        Tree tree = tree();
        Node found = node(tree, node);
        state(found.children.isEmpty());
        return tree.prominence(found);
    }

    int component(int pixel, int rank) {
        pixel(pixel);
        within(rank, 0, 15);
        Node found = null;
        for (Node node : tree().nodes) {
            if (node.pixels.contains(pixel) && node.rank >= rank && (found == null || node.rank < found.rank)) {
                found = node;
            }
        }
        return found == null ? -1 : found.number;
    }

    int meet(int first, int second) {
        pixel(first);
        pixel(second);
        return tree().smallestWith(first, second).number;
    }

    int distance(int first, int second) {
        Tree tree = tree();
        Node one = node(tree, first);
        Node two = node(tree, second);
        int steps = 0;
        for (Node from = one; from != null; from = from.parent) {
            int more = 0;
            for (Node to = two; to != null; to = to.parent) {
                if (to == from) {
                    return steps + more;
                }
                more++;
            }
            steps++;
        }
        throw new AssertionError("a tree has one root");
    }

    int verdict(int node, int attribute, int threshold, int rule) {
        Tree tree = tree();
        Node found = node(tree, node);
        filterArguments(attribute, threshold, rule);
        boolean[] passing = tree.passing(attribute, threshold);
        return (passing[node] ? 2 : 0) + (tree.remains(found, passing, rule) ? 1 : 0);
    }

    int filtered(int pixel, int attribute, int threshold, int rule) {
        pixel(pixel);
        filterArguments(attribute, threshold, rule);
        Tree tree = tree();
        return tree.turn(tree.filteredRank(pixel, tree.passing(attribute, threshold), rule));
    }

    int loss(int attribute, int threshold, int rule) {
        filterArguments(attribute, threshold, rule);
        Tree tree = tree();
        return tree.loss(tree.passing(attribute, threshold), rule);
    }

    int filter(int attribute, int threshold, int rule) {
        filterArguments(attribute, threshold, rule);
        Tree tree = tree();
        boolean[] passing = tree.passing(attribute, threshold);
        int[] levels = new int[image.levels.length];
        for (int pixel = 0; pixel < levels.length; pixel++) {
            levels[pixel] = tree.turn(tree.filteredRank(pixel, passing, rule));
        }
        return replace(levels);
    }

    int threshold(int attribute, int bound) {
        argument(attribute == 1 || (attribute >= 5 && attribute <= 11));
        within(bound, 0, 999);
        Tree tree = tree();
        int[] values = new int[tree.nodes.size()];
        for (Node node : tree.nodes) {
            values[node.number] = tree.attribute(node, attribute);
        }
        boolean[] before = null;
        int loss = 0;
        for (int threshold = 0; threshold <= 999; threshold++) {
            boolean[] passing = new boolean[values.length];
            for (int node = 0; node < values.length; node++) {
                passing[node] = values[node] >= threshold;
            }
            // The same nodes pass: the loss is the one of the threshold before.
            loss = java.util.Arrays.equals(passing, before) ? loss : tree.loss(passing, 1);
            before = passing;
            if (loss > bound) {
                return threshold;
            }
        }
        return -1;
    }

    private int rebuild(int[] markerRanks) {
        Tree tree = tree();
        int[] levels = new int[image.levels.length];
        for (int pixel = 0; pixel < levels.length; pixel++) {
            levels[pixel] = tree.turn(tree.reconstructedRank(pixel, markerRanks));
        }
        return replace(levels);
    }

    int reconstruct() {
        int[] markerRanks = new int[image.levels.length];
        for (int pixel = 0; pixel < markerRanks.length; pixel++) {
            markerRanks[pixel] = dark ? 15 - image.markers[pixel] : image.markers[pixel];
        }
        return rebuild(markerRanks);
    }

    int suppress(int height) {
        within(height, 0, 15);
        int[] markerRanks = new int[image.levels.length];
        for (int pixel = 0; pixel < markerRanks.length; pixel++) {
            int rank = dark ? 15 - image.levels[pixel] : image.levels[pixel];
            markerRanks[pixel] = rank < height ? 0 : rank - height;
        }
        return rebuild(markerRanks);
    }

    int keepPeaks(int many) {
        within(many, 0, 64);
        Tree tree = tree();
        List<Node> leaves = tree.leaves();
        List<Node> peaks = leaves.subList(0, Math.min(many, leaves.size()));
        int[] levels = new int[image.levels.length];
        for (int pixel = 0; pixel < levels.length; pixel++) {
            levels[pixel] = tree.turn(tree.rankWithPeaks(pixel, peaks));
        }
        return replace(levels);
    }

    int ifLevel(int pixel, int level, int what) {
        pixel(pixel);
        within(level, 0, 15);
        within(what, 2, 4);
        Image other = image.copy();
        other.levels[pixel] = level;
        return new Tree(other, dark, eight).number(what);
    }

    long digest() {
        Tree tree = tree();
        List<Long> values = new ArrayList<>();
        values.add(dark ? 1L : 0L);
        values.add(eight ? 1L : 0L);
        for (int what = 0; what <= 7; what++) {
            values.add((long) count(what));
        }
        for (int pixel = 0; pixel < image.levels.length; pixel++) {
            values.add((long) image.levels[pixel]);
            values.add((long) image.markers[pixel]);
            values.add((long) tree.nodeOf(pixel).number);
        }
        for (Node node : tree.nodes) {
            for (int attribute = 0; attribute <= 11; attribute++) {
                values.add((long) tree.attribute(node, attribute));
            }
        }
        for (Node leaf : tree.leaves()) {
            values.add((long) leaf.number);
        }
        values.add((long) loss(1, 3, 1));
        values.add((long) loss(6, 4, 3));
        values.add((long) text.length());
        for (char code : text.toCharArray()) {
            values.add((long) code);
        }
        long hash = 1879;
        for (long value : values) {
            hash = 31 * hash + value;
        }
        return hash;
    }
}
