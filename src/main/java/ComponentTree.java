import java.util.Arrays;

/**
 * The component tree of a small gray image: it holds the connected components of all gray levels
 * with their attributes, filters the image by them, reconstructs it from markers, suppresses and
 * keeps peaks, and answers questions about the tree.
 */
public final class ComponentTree {
    /** There is no such number. */
    public static final int NONE = -1;

    private static final int MOST_SIDE = 8;
    private static final int MOST_PIXELS = 64;
    private static final int TOP_LEVEL = 15;
    private static final int RANKS = 16;
    private static final int MOST_KEPT = 8;
    private static final int MOST_CODES = 72;
    private static final int FIRST_CODE = 32;
    private static final int LAST_CODE = 126;
    private static final int TOP_THRESHOLD = 999;

    private static final int RANK = 0;
    private static final int AREA = 1;
    private static final int OWN = 2;
    private static final int PARENT = 3;
    private static final int CHILDREN = 4;
    private static final int HEIGHT = 5;
    private static final int VOLUME = 6;
    private static final int WIDTH = 7;
    private static final int TALLNESS = 8;
    private static final int PERIMETER = 9;
    private static final int HOLES = 10;
    private static final int PROMINENCE = 11;
    private static final int ATTRIBUTES = 12;

    private static final int DIRECT = 0;
    private static final int STRICT = 1;
    private static final int LENIENT = 2;
    private static final int SUBTRACTIVE = 3;

    private static final int NUMBERS = 8;
    private static final int NODES = 2;
    private static final int DEPTH = 4;

    private final Picture picture = new Picture();
    private final Picture trialPicture = new Picture();
    private final History history = new History();
    private final InputText input = new InputText();
    private final Nodes nodes = new Nodes();
    private final Nodes trialNodes = new Nodes();
    private final Measures measures = new Measures();
    private final Change change = new Change();
    private final int[] markerRanks = new int[MOST_PIXELS];
    private boolean dark = false;
    private boolean eight = false;
    private boolean stale = true;

    /** Creates a bright tree with connectivity 4 of an image of one pixel. */
    public ComponentTree() {
    }

    // ---- images

    /** Begins a blank image; answers the number of pixels before. */
    public int begin(int columns, int rows) throws IllegalArgumentException {
        needArgument(columns >= 1 && columns <= MOST_SIDE);
        needArgument(rows >= 1 && rows <= MOST_SIDE);
        int before = picture.size();
        history.keep(picture);
        picture.blank(columns, rows);
        stale = true;
        return before;
    }

    /** Sets the level of a pixel; answers its level before. */
    public int setLevel(int pixel, int level) throws IndexOutOfBoundsException, IllegalArgumentException {
        needPixel(pixel);
        needArgument(isLevel(level));
        int before = picture.levels[pixel];
        history.keep(picture);
        picture.levels[pixel] = level;
        stale = true;
        return before;
    }

    /** Sets the levels of a rectangle; answers how many pixels got another level. */
    public int fill(int first, int last, int level) throws IndexOutOfBoundsException, IllegalArgumentException {
        needPixel(first);
        needPixel(last);
        needArgument(isLevel(level));
        history.keep(picture);
        stale = true;
        return picture.paint(first, last, level);
    }

    /** Replaces each level by 15 minus the level; answers the number of nodes afterwards. */
    public int complement() {
        history.keep(picture);
        for (int pixel = 0; pixel < picture.size(); pixel++) {
            picture.levels[pixel] = TOP_LEVEL - picture.levels[pixel];
        }
        stale = true;
        refresh();
        return nodes.many;
    }

    /** Sets the marker of a pixel; answers its marker before. */
    public int setMarker(int pixel, int marker) throws IndexOutOfBoundsException, IllegalArgumentException {
        needPixel(pixel);
        needArgument(isLevel(marker));
        int before = picture.markers[pixel];
        picture.markers[pixel] = marker;
        return before;
    }

    /** Sets all markers to the levels; answers how many markers changed. */
    public int markAll() {
        int changed = 0;
        for (int pixel = 0; pixel < picture.size(); pixel++) {
            if (picture.markers[pixel] != picture.levels[pixel]) {
                picture.markers[pixel] = picture.levels[pixel];
                changed++;
            }
        }
        return changed;
    }

    /** Answers the level of a pixel. */
    public int level(int pixel) throws IndexOutOfBoundsException {
        needPixel(pixel);
        return picture.levels[pixel];
    }

    /** Answers the marker of a pixel. */
    public int marker(int pixel) throws IndexOutOfBoundsException {
        needPixel(pixel);
        return picture.markers[pixel];
    }

    /** Answers the sum of the absolute differences of level and marker. */
    public int difference() {
        int sum = 0;
        for (int pixel = 0; pixel < picture.size(); pixel++) {
            sum += Math.abs(picture.levels[pixel] - picture.markers[pixel]);
        }
        return sum;
    }

    /** Chooses between a bright and a dark tree; answers whether it was dark before. */
    public boolean setDark(boolean dark) {
        boolean before = this.dark;
        this.dark = dark;
        stale = true;
        return before;
    }

    /** Chooses the connectivity; answers whether it was 8 before. */
    public boolean setEight(boolean eight) {
        boolean before = this.eight;
        this.eight = eight;
        stale = true;
        return before;
    }

    /** Takes the latest step back; answers how many saved images are left. */
    public int undo() throws IllegalStateException {
        needState(history.size > 0);
        history.giveBack(picture);
        stale = true;
        return history.size;
    }

    // ---- input

    /** Appends a character to the input buffer; answers the buffer's new length. */
    public int append(int code) throws IllegalArgumentException, IllegalStateException {
        needArgument(code >= FIRST_CODE && code <= LAST_CODE);
        needState(input.length < MOST_CODES);
        input.add(code);
        return input.length;
    }

    /** Clears the input buffer; answers the length that it had. */
    public int clearInput() {
        int before = input.length;
        input.length = 0;
        return before;
    }

    /** Answers the index of the first syntax error, or the buffer's length. */
    public int firstError() {
        return input.scan();
    }

    /** Replaces the image by the one in the buffer; answers the number of pixels. */
    public int load() throws IllegalStateException {
        needState(input.isPicture());
        history.keep(picture);
        input.writeTo(picture);
        input.length = 0;
        stale = true;
        return picture.size();
    }

    // ---- the tree

    /** Answers a number about the image, the tree or the saved images. */
    public int count(int what) throws IllegalArgumentException {
        needArgument(what >= 0 && what < NUMBERS);
        refresh();
        return numberOf(what);
    }

    /** Answers the node of a pixel. */
    public int nodeOf(int pixel) throws IndexOutOfBoundsException {
        needPixel(pixel);
        refresh();
        return nodes.ofPixel[pixel];
    }

    /** Answers an attribute of a node. */
    public int attribute(int node, int attribute) throws IndexOutOfBoundsException, IllegalArgumentException {
        refresh();
        needNode(node);
        needArgument(attribute >= 0 && attribute < ATTRIBUTES);
        return measures.values[attribute][node];
    }

    /** Answers the mean of the ranks of all pixels of a node. */
    public double meanRank(int node) throws IndexOutOfBoundsException {
        refresh();
        needNode(node);
        int area = measures.values[AREA][node];
        int sum = measures.values[VOLUME][node] + nodes.rank[node] * area;
        return area < 1 ? 0.0 : (double) sum / area;
    }

    /** Tells whether a node contains a pixel. */
    public boolean contains(int node, int pixel) throws IndexOutOfBoundsException {
        refresh();
        needNode(node);
        needPixel(pixel);
        return nodes.holds(node, pixel);
    }

    /** Answers the child of a node with the given index. */
    public int child(int node, int index) throws IndexOutOfBoundsException {
        refresh();
        needNode(node);
        needIndex(index, nodes.children[node]);
        return nodes.childAt(node, index);
    }

    /** Answers the leaf with the given index in the order of the leaves. */
    public int leaf(int index) throws IndexOutOfBoundsException {
        refresh();
        needIndex(index, nodes.leaves);
        return measures.leaves[index];
    }

    /** Answers the prominence of a leaf. */
    public int prominence(int node) throws IndexOutOfBoundsException, IllegalStateException {
        refresh();
        needNode(node);
        needState(nodes.children[node] == 0);
        return measures.values[PROMINENCE][node];
    }

    /** Answers the component of a rank that contains a pixel, as a node. */
    public int component(int pixel, int rank) throws IndexOutOfBoundsException, IllegalArgumentException {
        needPixel(pixel);
        needArgument(isLevel(rank));
        refresh();
        return nodes.lowestWith(pixel, rank);
    }

    /** Answers the smallest node that contains two pixels. */
    public int meet(int first, int second) throws IndexOutOfBoundsException {
        needPixel(first);
        needPixel(second);
        refresh();
        return nodes.smallestWith(first, second);
    }

    /** Answers the number of steps between two nodes in the tree. */
    public int distance(int first, int second) throws IndexOutOfBoundsException {
        refresh();
        needNode(first);
        needNode(second);
        return nodes.stepsBetween(first, second);
    }

    // ---- filters

    /** Answers 2 if a node passes in a filter, otherwise 0, plus 1 if it remains. */
    public int verdict(int node, int attribute, int threshold, int rule)
            throws IndexOutOfBoundsException, IllegalArgumentException {
        refresh();
        needNode(node);
        needFilter(attribute, threshold, rule);
        change.prune(nodes, measures.values[attribute], threshold, rule);
        int passes = measures.values[attribute][node] >= threshold ? 2 : 0;
        return passes + (change.remains[node] ? 1 : 0);
    }

    /** Answers the level that a pixel would get by a filter. */
    public int filtered(int pixel, int attribute, int threshold, int rule)
            throws IndexOutOfBoundsException, IllegalArgumentException {
        needPixel(pixel);
        needFilter(attribute, threshold, rule);
        refresh();
        change.prune(nodes, measures.values[attribute], threshold, rule);
        return turned(change.ranks[nodes.ofPixel[pixel]], dark);
    }

    /** Answers how much the image would change by a filter. */
    public int loss(int attribute, int threshold, int rule) throws IllegalArgumentException {
        needFilter(attribute, threshold, rule);
        refresh();
        return lossBy(attribute, threshold, rule);
    }

    /** Filters the image; answers how many pixels got another level. */
    public int filter(int attribute, int threshold, int rule) throws IllegalArgumentException {
        needFilter(attribute, threshold, rule);
        refresh();
        change.prune(nodes, measures.values[attribute], threshold, rule);
        return repaint();
    }

    /** Answers the least threshold whose strict filter changes the image by more than a bound. */
    public int threshold(int attribute, int bound) throws IllegalArgumentException {
        needArgument(isFilterAttribute(attribute));
        needArgument(bound >= 0 && bound <= TOP_THRESHOLD);
        refresh();
        // A greater threshold leaves fewer nodes by the strict rule, so the loss never falls, and
        // the greatest threshold within the bound can be put together from powers of two.
        int within = 0;
        for (int power = 512; power > 0; power /= 2) {
            int tried = within + power;
            if (tried <= TOP_THRESHOLD && lossBy(attribute, tried, STRICT) <= bound) {
                within = tried;
            }
        }
        return within == TOP_THRESHOLD ? NONE : within + 1;
    }

    // ---- reconstruction and peaks

    /** Reconstructs the image from its markers; answers how many pixels got another level. */
    public int reconstruct() {
        refresh();
        for (int pixel = 0; pixel < picture.size(); pixel++) {
            markerRanks[pixel] = turned(picture.markers[pixel], dark);
        }
        change.rebuild(nodes, markerRanks);
        return repaint();
    }

    /** Suppresses low peaks; answers how many pixels got another level. */
    public int suppress(int height) throws IllegalArgumentException {
        needArgument(isLevel(height));
        refresh();
        for (int pixel = 0; pixel < picture.size(); pixel++) {
            markerRanks[pixel] = Math.max(0, turned(picture.levels[pixel], dark) - height);
        }
        change.rebuild(nodes, markerRanks);
        return repaint();
    }

    /** Keeps the first leaves in their order; answers how many pixels got another level. */
    public int keepPeaks(int many) throws IllegalArgumentException {
        needArgument(many >= 0 && many <= MOST_PIXELS);
        refresh();
        change.keepLeaves(nodes, measures.leaves, Math.min(many, nodes.leaves));
        return repaint();
    }

    /** Answers a number of the tree that would be if a pixel had another level. */
    public int ifLevel(int pixel, int level, int what)
            throws IndexOutOfBoundsException, IllegalArgumentException {
        needPixel(pixel);
        needArgument(isLevel(level));
        needArgument(what >= NODES && what <= DEPTH);
        trialPicture.copyFrom(picture);
        trialPicture.levels[pixel] = level;
        trialNodes.build(trialPicture, dark, eight);
        return trialNodes.numberOf(what);
    }

    /** Computes a hash of the whole state. */
    public long digest() {
        refresh();
        long hash = 1879;
        hash = mixed(hash, dark ? 1 : 0);
        hash = mixed(hash, eight ? 1 : 0);
        for (int what = 0; what < NUMBERS; what++) {
            hash = mixed(hash, numberOf(what));
        }
        hash = withPixels(hash);
        hash = withTree(hash);
        hash = mixed(hash, lossBy(AREA, 3, STRICT));
        hash = mixed(hash, lossBy(VOLUME, 4, SUBTRACTIVE));
        hash = mixed(hash, input.length);
        for (int index = 0; index < input.length; index++) {
            hash = mixed(hash, input.codes[index]);
        }
        return hash;
    }

    private long withPixels(long start) {
        long hash = start;
        for (int pixel = 0; pixel < picture.size(); pixel++) {
            hash = mixed(hash, picture.levels[pixel]);
            hash = mixed(hash, picture.markers[pixel]);
            hash = mixed(hash, nodes.ofPixel[pixel]);
        }
        return hash;
    }

    private long withTree(long start) {
        long hash = start;
        for (int node = 0; node < nodes.many; node++) {
            for (int attribute = 0; attribute < ATTRIBUTES; attribute++) {
                hash = mixed(hash, measures.values[attribute][node]);
            }
        }
        for (int index = 0; index < nodes.leaves; index++) {
            hash = mixed(hash, measures.leaves[index]);
        }
        return hash;
    }

    private static long mixed(long hash, int value) {
        return 31 * hash + value;
    }

    // ---- what the calls share

    private void refresh() {
        if (stale) {
            nodes.build(picture, dark, eight);
            measures.measure(nodes);
            stale = false;
        }
    }

    private int numberOf(int what) {
        switch (what) {
            case 0:
                return picture.columns;
            case 1:
                return picture.rows;
            case 5:
                return picture.differentLevels();
            case 6:
                return picture.sumOfLevels();
            case 7:
                return history.size;
            default:
                return nodes.numberOf(what);
        }
    }

    private int lossBy(int attribute, int threshold, int rule) {
        change.prune(nodes, measures.values[attribute], threshold, rule);
        return change.lossIn(nodes);
    }

    private int repaint() {
        history.keep(picture);
        for (int pixel = 0; pixel < picture.size(); pixel++) {
            picture.levels[pixel] = turned(change.ranks[nodes.ofPixel[pixel]], dark);
        }
        stale = true;
        return change.changedIn(nodes);
    }

    /** The rank of a level, and as well the level of a rank. */
    private static int turned(int value, boolean dark) {
        return dark ? TOP_LEVEL - value : value;
    }

    private static boolean isLevel(int value) {
        return value >= 0 && value <= TOP_LEVEL;
    }

    private static boolean isFilterAttribute(int attribute) {
        return attribute == AREA || (attribute >= HEIGHT && attribute <= PROMINENCE);
    }

    private static void needFilter(int attribute, int threshold, int rule) {
        needArgument(isFilterAttribute(attribute));
        needArgument(threshold >= 0 && threshold <= TOP_THRESHOLD);
        needArgument(rule >= DIRECT && rule <= SUBTRACTIVE);
    }

    private void needPixel(int pixel) {
        needIndex(pixel, picture.size());
    }

    private void needNode(int node) {
        needIndex(node, nodes.many);
    }

    private static void needIndex(int index, int bound) {
        if (index < 0 || index >= bound) {
            throw new IndexOutOfBoundsException("there is no such number");
        }
    }

    private static void needArgument(boolean good) {
        if (!good) {
            throw new IllegalArgumentException("an argument is out of range");
        }
    }

    private static void needState(boolean good) {
        if (!good) {
            throw new IllegalStateException("the state does not allow this call");
        }
    }

    /** An image with its markers. */
    private static final class Picture {
        int columns = 1;
        int rows = 1;
        final int[] levels = new int[MOST_PIXELS];
        final int[] markers = new int[MOST_PIXELS];

        int size() {
            return columns * rows;
        }

        void blank(int newColumns, int newRows) {
            columns = newColumns;
            rows = newRows;
            Arrays.fill(levels, 0);
            Arrays.fill(markers, 0);
        }

        void copyFrom(Picture other) {
            columns = other.columns;
            rows = other.rows;
            System.arraycopy(other.levels, 0, levels, 0, MOST_PIXELS);
            System.arraycopy(other.markers, 0, markers, 0, MOST_PIXELS);
        }

        int rowOf(int pixel) {
            return columns < 1 ? 0 : pixel / columns;
        }

        int columnOf(int pixel) {
            return pixel - rowOf(pixel) * columns;
        }

        int paint(int first, int last, int level) {
            int left = Math.min(columnOf(first), columnOf(last));
            int right = Math.max(columnOf(first), columnOf(last));
            int top = Math.min(rowOf(first), rowOf(last));
            int bottom = Math.max(rowOf(first), rowOf(last));
            int changed = 0;
            for (int row = top; row <= bottom; row++) {
                for (int column = left; column <= right; column++) {
                    int pixel = row * columns + column;
                    changed += levels[pixel] == level ? 0 : 1;
                    levels[pixel] = level;
                }
            }
            return changed;
        }

        int differentLevels() {
            int seen = 0;
            for (int pixel = 0; pixel < size(); pixel++) {
                seen |= 1 << levels[pixel];
            }
            return Integer.bitCount(seen);
        }

        int sumOfLevels() {
            int sum = 0;
            for (int pixel = 0; pixel < size(); pixel++) {
                sum += levels[pixel];
            }
            return sum;
        }
    }

    /** The latest saved images, in a ring, so that the oldest one gives its room to the newest. */
    private static final class History {
        private final Picture[] kept = new Picture[MOST_KEPT];
        private int next = 0;
        int size = 0;

        History() {
            for (int index = 0; index < MOST_KEPT; index++) {
                kept[index] = new Picture();
            }
        }

        void keep(Picture picture) {
            kept[next].copyFrom(picture);
            next = (next + 1) % MOST_KEPT;
            size = Math.min(size + 1, MOST_KEPT);
        }

        void giveBack(Picture picture) {
            next = (next + MOST_KEPT - 1) % MOST_KEPT;
            size = size - 1;
            picture.copyFrom(kept[next]);
        }
    }

    /** The input buffer, and what its latest scan found. */
    private static final class InputText {
        final int[] codes = new int[MOST_CODES];
        int length = 0;
        private int columns = 0;
        private int rows = 0;
        private int inRow = 0;

        void add(int code) {
            if (length < MOST_CODES) {
                codes[length] = code;
                length++;
            }
        }

        /** Answers the index of the first syntax error, or the length if there is none. */
        int scan() {
            columns = 0;
            rows = 1;
            inRow = 0;
            for (int index = 0; index < length; index++) {
                boolean good = codes[index] == '/' ? takeSlash() : takeValue(codes[index]);
                if (!good) {
                    return index;
                }
            }
            return length;
        }

        private boolean takeSlash() {
            if (inRow == 0 || inRow < columns || rows == MOST_SIDE) {
                return false;
            }
            rows++;
            inRow = 0;
            return true;
        }

        private boolean takeValue(int code) {
            int room = rows == 1 ? MOST_SIDE : columns;
            if (valueOf(code) == NONE || inRow >= room) {
                return false;
            }
            inRow++;
            if (rows == 1) {
                columns = inRow;
            }
            return true;
        }

        boolean isPicture() {
            return scan() == length && inRow > 0 && inRow == columns;
        }

        /** To be called right behind an isPicture that answered true. */
        void writeTo(Picture picture) {
            picture.blank(columns, rows);
            for (int row = 0; row < rows; row++) {
                for (int column = 0; column < columns; column++) {
                    // One slash stands behind each row that is not the last one.
                    int code = codes[row * (columns + 1) + column];
                    picture.levels[row * columns + column] = valueOf(code);
                }
            }
        }

        private static int valueOf(int code) {
            if (code >= '0' && code <= '9') {
                return code - '0';
            }
            return code >= 'A' && code <= 'F' ? code - 'A' + 10 : NONE;
        }
    }

    /**
     * The shape of an image. A set of pixels is a long: the pixel p is in it if bit p is set. So a
     * set moves by one column with a shift by 1, and by one row with a shift by the row's length.
     */
    private static final class Grid {
        int columns = 1;
        int rows = 1;
        int size = 1;
        long all = 1;
        private long left = 1;
        private long right = 1;
        private long border = 1;

        void shape(int newColumns, int newRows) {
            columns = newColumns;
            rows = newRows;
            size = columns * rows;
            all = -1L >>> (MOST_PIXELS - size);
            left = 0;
            for (int row = 0; row < rows; row++) {
                left |= 1L << (row * columns);
            }
            right = left << (columns - 1);
            border = left | right | rowSet(0) | rowSet(rows - 1);
        }

        long rowSet(int row) {
            return ((1L << columns) - 1) << (row * columns);
        }

        long columnSet(int column) {
            return left << column;
        }

        /** The set with all neighbors of its pixels, and perhaps bits behind the image. */
        private long spread(long set, boolean diagonal) {
            long wide = set | (set & ~right) << 1 | (set & ~left) >>> 1;
            long turning = diagonal ? wide : set;
            return wide | turning << columns | turning >>> columns;
        }

        /** The pixels that are connected with the seed within a set that contains it. */
        long connected(long seed, long within, boolean diagonal) {
            long reached = seed;
            // Each round but the last one adds a pixel.
            for (int round = 0; round < MOST_PIXELS; round++) {
                long next = spread(reached, diagonal) & within;
                if (next == reached) {
                    return reached;
                }
                reached = next;
            }
            return reached;
        }

        int perimeterOf(long set) {
            int beside = Long.bitCount(set & (set & ~right) << 1);
            int below = Long.bitCount(set & set << columns);
            return 4 * Long.bitCount(set) - 2 * (beside + below);
        }

        /** How many columns a connected set has: it leaves out none between its outermost ones. */
        int widthOf(long set) {
            int width = 0;
            for (int column = 0; column < columns; column++) {
                width += (set & columnSet(column)) == 0 ? 0 : 1;
            }
            return width;
        }

        /** How many rows a connected set has: it leaves out none between its outermost ones. */
        int tallnessOf(long set) {
            int tallness = 0;
            for (int row = 0; row < rows; row++) {
                tallness += (set & rowSet(row)) == 0 ? 0 : 1;
            }
            return tallness;
        }

        int holesOf(long set, boolean eight) {
            int holes = 0;
            long rest = all & ~set;
            for (int pixel = 0; pixel < size && rest != 0; pixel++) {
                long bit = 1L << pixel;
                if ((rest & bit) != 0) {
                    long outside = connected(bit, rest, !eight);
                    holes += (outside & border) == 0 ? 1 : 0;
                    rest &= ~outside;
                }
            }
            return holes;
        }
    }

    /** The nodes of an image. A parent has a lower number than its children, by the numbering. */
    private static final class Nodes {
        final Grid grid = new Grid();
        boolean eight = false;
        int many = 0;
        int leaves = 0;
        int depth = 0;
        final long[] pixels = new long[MOST_PIXELS];
        final int[] rank = new int[MOST_PIXELS];
        final int[] own = new int[MOST_PIXELS];
        final int[] parent = new int[MOST_PIXELS];
        final int[] children = new int[MOST_PIXELS];
        final int[] ofPixel = new int[MOST_PIXELS];
        private final int[] depths = new int[MOST_PIXELS];
        private final long[] withRank = new long[RANKS];

        void build(Picture picture, boolean dark, boolean isEight) {
            grid.shape(picture.columns, picture.rows);
            eight = isEight;
            many = 0;
            depth = 0;
            Arrays.fill(ofPixel, NONE);
            sortPixels(picture, dark);
            long notLess = grid.all;
            for (int t = 0; t < RANKS; t++) {
                if (withRank[t] != 0) {
                    addNodes(t, notLess);
                }
                notLess &= ~withRank[t];
            }
            countLeaves();
        }

        private void sortPixels(Picture picture, boolean dark) {
            Arrays.fill(withRank, 0);
            for (int pixel = 0; pixel < grid.size; pixel++) {
                withRank[turned(picture.levels[pixel], dark)] |= 1L << pixel;
            }
        }

        private void addNodes(int t, long notLess) {
            long rest = notLess;
            // A node has a pixel of its own, so there are never more nodes than pixels.
            for (int pixel = 0; pixel < grid.size && many < MOST_PIXELS; pixel++) {
                long bit = 1L << pixel;
                if ((rest & bit) != 0) {
                    long found = grid.connected(bit, rest, eight);
                    rest &= ~found;
                    if ((found & withRank[t]) != 0) {
                        addNode(t, found, pixel);
                    }
                }
            }
        }

        private void addNode(int t, long found, int lowest) {
            int node = many;
            many++;
            int above = ofPixel[lowest];
            pixels[node] = found;
            rank[node] = t;
            own[node] = Long.bitCount(found & withRank[t]);
            parent[node] = above;
            children[node] = 0;
            depths[node] = 1;
            if (above != NONE) {
                children[above]++;
                depths[node] = depths[above] + 1;
            }
            depth = Math.max(depth, depths[node]);
            for (int pixel = lowest; pixel < grid.size; pixel++) {
                if (holds(node, pixel)) {
                    ofPixel[pixel] = node;
                }
            }
        }

        private void countLeaves() {
            leaves = 0;
            for (int node = 0; node < many; node++) {
                leaves += children[node] == 0 ? 1 : 0;
            }
        }

        int numberOf(int what) {
            if (what == NODES) {
                return many;
            }
            return what == DEPTH ? depth : leaves;
        }

        boolean holds(int node, int pixel) {
            return (pixels[node] >>> pixel & 1) != 0;
        }

        private boolean holdsNode(int node, int other) {
            return (pixels[other] & ~pixels[node]) == 0;
        }

        int childAt(int node, int index) {
            int passed = 0;
            for (int other = node + 1; other < many; other++) {
                if (parent[other] == node) {
                    if (passed == index) {
                        return other;
                    }
                    passed++;
                }
            }
            return NONE;
        }

        int lowestWith(int pixel, int least) {
            for (int node = 0; node < many; node++) {
                if (rank[node] >= least && holds(node, pixel)) {
                    return node;
                }
            }
            return NONE;
        }

        int smallestWith(int first, int second) {
            for (int node = many - 1; node > 0; node--) {
                if (holds(node, first) && holds(node, second)) {
                    return node;
                }
            }
            return 0;
        }

        /** The way goes through the nodes that contain just one of the two, and where they meet. */
        int stepsBetween(int first, int second) {
            int steps = 0;
            for (int node = 0; node < many; node++) {
                steps += holdsNode(node, first) != holdsNode(node, second) ? 1 : 0;
            }
            return steps;
        }
    }

    /** The attributes of all nodes, and the order of the leaves. */
    private static final class Measures {
        final int[][] values = new int[ATTRIBUTES][MOST_PIXELS];
        final int[] leaves = new int[MOST_PIXELS];
        private final int[] summit = new int[MOST_PIXELS];
        private final int[] sum = new int[MOST_PIXELS];

        void measure(Nodes nodes) {
            findSummits(nodes);
            addRanks(nodes);
            for (int node = 0; node < nodes.many; node++) {
                measureTree(nodes, node);
                measureShape(nodes, node);
                values[PROMINENCE][node] = prominenceIn(nodes, node);
            }
            orderLeaves(nodes);
        }

        /** Finds the highest leaf of each node. */
        private void findSummits(Nodes nodes) {
            for (int node = 0; node < nodes.many; node++) {
                summit[node] = nodes.children[node] == 0 ? node : NONE;
            }
            for (int node = nodes.many - 1; node > 0; node--) {
                int above = nodes.parent[node];
                if (summit[above] == NONE || isHigher(nodes, summit[node], summit[above])) {
                    summit[above] = summit[node];
                }
            }
        }

        private static boolean isHigher(Nodes nodes, int leaf, int other) {
            int gain = nodes.rank[leaf] - nodes.rank[other];
            return gain > 0 || (gain == 0 && leaf < other);
        }

        private void addRanks(Nodes nodes) {
            for (int node = 0; node < nodes.many; node++) {
                sum[node] = nodes.own[node] * nodes.rank[node];
            }
            for (int node = nodes.many - 1; node > 0; node--) {
                sum[nodes.parent[node]] += sum[node];
            }
        }

        private void measureTree(Nodes nodes, int node) {
            int area = Long.bitCount(nodes.pixels[node]);
            values[RANK][node] = nodes.rank[node];
            values[AREA][node] = area;
            values[OWN][node] = nodes.own[node];
            values[PARENT][node] = nodes.parent[node];
            values[CHILDREN][node] = nodes.children[node];
            values[HEIGHT][node] = nodes.rank[summit[node]] - nodes.rank[node];
            values[VOLUME][node] = sum[node] - nodes.rank[node] * area;
        }

        private void measureShape(Nodes nodes, int node) {
            long set = nodes.pixels[node];
            values[WIDTH][node] = nodes.grid.widthOf(set);
            values[TALLNESS][node] = nodes.grid.tallnessOf(set);
            values[PERIMETER][node] = nodes.grid.perimeterOf(set);
            values[HOLES][node] = nodes.grid.holesOf(set, nodes.eight);
        }

        /**
         * The prominence of the node's highest leaf. No other leaf of the node has a greater one,
         * for it begins at the node or above it, while that of the highest leaf begins below the
         * node's rank.
         */
        private int prominenceIn(Nodes nodes, int node) {
            int above = nodes.parent[node];
            if (above == NONE) {
                return nodes.rank[summit[node]] + 1;
            }
            if (summit[above] == summit[node]) {
                return values[PROMINENCE][above];
            }
            return nodes.rank[summit[node]] - nodes.rank[above];
        }

        private void orderLeaves(Nodes nodes) {
            int[] prominences = values[PROMINENCE];
            int placed = 0;
            for (int node = 0; node < nodes.many; node++) {
                if (nodes.children[node] == 0) {
                    int place = placed;
                    for (; place > 0 && prominences[leaves[place - 1]] < prominences[node]; place--) {
                        leaves[place] = leaves[place - 1];
                    }
                    leaves[place] = node;
                    placed++;
                }
            }
        }
    }

    /**
     * A change of the image. The own pixels of a node all get the same new rank, so the change is
     * held as one rank for each node.
     */
    private static final class Change {
        final boolean[] remains = new boolean[MOST_PIXELS];
        final int[] ranks = new int[MOST_PIXELS];

        void prune(Nodes nodes, int[] values, int threshold, int rule) {
            for (int node = 0; node < nodes.many; node++) {
                remains[node] = node == 0 || values[node] >= threshold;
            }
            if (rule == STRICT) {
                dropBelowDropped(nodes);
            }
            if (rule == LENIENT) {
                keepAboveKept(nodes);
            }
            if (rule == SUBTRACTIVE) {
                addSteps(nodes);
            } else {
                sinkToRemaining(nodes);
            }
        }

        void keepLeaves(Nodes nodes, int[] leaves, int many) {
            for (int node = 0; node < nodes.many; node++) {
                remains[node] = node == 0;
            }
            for (int index = 0; index < many; index++) {
                remains[leaves[index]] = true;
            }
            keepAboveKept(nodes);
            sinkToRemaining(nodes);
        }

        private void dropBelowDropped(Nodes nodes) {
            for (int node = 1; node < nodes.many; node++) {
                remains[node] = remains[node] && remains[nodes.parent[node]];
            }
        }

        private void keepAboveKept(Nodes nodes) {
            for (int node = nodes.many - 1; node > 0; node--) {
                if (remains[node]) {
                    remains[nodes.parent[node]] = true;
                }
            }
        }

        private void sinkToRemaining(Nodes nodes) {
            ranks[0] = nodes.rank[0];
            for (int node = 1; node < nodes.many; node++) {
                ranks[node] = remains[node] ? nodes.rank[node] : ranks[nodes.parent[node]];
            }
        }

        private void addSteps(Nodes nodes) {
            ranks[0] = nodes.rank[0];
            for (int node = 1; node < nodes.many; node++) {
                int above = nodes.parent[node];
                int step = remains[node] ? nodes.rank[node] - nodes.rank[above] : 0;
                ranks[node] = ranks[above] + step;
            }
        }

        /**
         * Reconstructs. A component of rank t with a marker of t or more is part of a node whose
         * rank is t or more, so a node reaches the lesser one of its rank and its greatest marker,
         * and its pixels the greatest number that one of the nodes around them reaches.
         */
        void rebuild(Nodes nodes, int[] markerRanks) {
            Arrays.fill(ranks, 0);
            for (int pixel = 0; pixel < nodes.grid.size; pixel++) {
                int node = nodes.ofPixel[pixel];
                ranks[node] = Math.max(ranks[node], markerRanks[pixel]);
            }
            for (int node = nodes.many - 1; node > 0; node--) {
                int above = nodes.parent[node];
                ranks[above] = Math.max(ranks[above], ranks[node]);
            }
            ranks[0] = Math.min(ranks[0], nodes.rank[0]);
            for (int node = 1; node < nodes.many; node++) {
                int reached = Math.min(ranks[node], nodes.rank[node]);
                ranks[node] = Math.max(reached, ranks[nodes.parent[node]]);
            }
        }

        int lossIn(Nodes nodes) {
            int lost = 0;
            for (int node = 0; node < nodes.many; node++) {
                lost += nodes.own[node] * Math.abs(nodes.rank[node] - ranks[node]);
            }
            return lost;
        }

        int changedIn(Nodes nodes) {
            int changed = 0;
            for (int node = 0; node < nodes.many; node++) {
                changed += nodes.rank[node] == ranks[node] ? 0 : nodes.own[node];
            }
            return changed;
        }
    }
}
