import java.util.ArrayList;
import java.util.EnumMap;
import java.util.List;
import java.util.Map;
import java.util.TreeSet;

/**
 * What the tests of the boundary cases share. A call is tried in several states, each time on a
 * new object, and what it must not change is compared with an object that never got the call.
 */
final class Bounds {
    static final Class<?> INDEX = IndexOutOfBoundsException.class;
    static final Class<?> ARGUMENT = IllegalArgumentException.class;
    static final Class<?> STATE = IllegalStateException.class;
    static final int MOST_SAVED = 8;

    private static final String DIGITS = "0123456789ABCDEF";
    private static final String LARGEST =
            "12121212/2F0F0F21/10343412/2F4A4F21/10343412/2F0F0F21/17777712/2121210C";

    /** Something that is done with an object. */
    interface Deed {
        void on(ComponentTree tree);
    }

    /** A call with one argument that varies. */
    interface Numbered {
        void on(ComponentTree tree, int number);
    }

    /** The states in which a call is tried. */
    enum State {
        /** A new object. */
        FRESH,
        /** A dark tree with connectivity 8, few saved images and half a text; it has been asked. */
        MIDDLE,
        /** The largest image, all saved images and all characters; the tree has not been asked. */
        FULL;

        ComponentTree make() {
            ComponentTree tree = new ComponentTree();
            if (this == MIDDLE) {
                makeMiddle(tree);
            }
            if (this == FULL) {
                makeFull(tree);
            }
            return tree;
        }

        int pixels() {
            ComponentTree tree = make();
            return tree.count(0) * tree.count(1);
        }
    }

    private static final Sentences SENTENCES = new Sentences();
    private static final Map<State, List<Long>> TRACES = new EnumMap<>(State.class);
    private static String test = "";

    private Bounds() {
    }

    private static void makeMiddle(ComponentTree tree) {
        tree.begin(3, 2);
        tree.fill(0, 4, 9);
        tree.setMarker(1, 4);
        tree.setLevel(2, 15);
        tree.setLevel(3, 1);
        tree.setMarker(5, 11);
        tree.setDark(true);
        tree.setEight(true);
        type(tree, "1F/");
        tree.count(2);
    }

    private static void makeFull(ComponentTree tree) {
        type(tree, LARGEST);
        tree.load();
        for (int pixel = 0; pixel <= MOST_SAVED; pixel++) {
            tree.setMarker(pixel * 7, 15 - pixel);
            tree.setLevel(63 - pixel, pixel + 3);
        }
        type(tree, LARGEST);
        tree.append('0');
    }

    static void type(ComponentTree tree, String text) {
        for (char code : text.toCharArray()) {
            tree.append(code);
        }
    }

    static ComponentTree treeOf(String text) {
        ComponentTree tree = new ComponentTree();
        type(tree, text);
        tree.load();
        return tree;
    }

    static ComponentTree darkTreeOf(String text) {
        ComponentTree tree = treeOf(text);
        tree.setDark(true);
        return tree;
    }

    static ComponentTree eightTreeOf(String text) {
        ComponentTree tree = treeOf(text);
        tree.setEight(true);
        return tree;
    }

    /** Begins the test of one sentence of the document. */
    static void says(int promise, String sentence) {
        SENTENCES.name(promise, sentence);
        String start = sentence.length() > 60 ? sentence.substring(0, 60) + ".." : sentence;
        test = "promise " + promise + " (" + start + "): ";
    }

    static void checkAllNamed() {
        SENTENCES.checkAllNamed();
    }

    static void same(String call, long got, long due) {
        Check.same(test + call, got, due);
    }

    static void same(String call, boolean got, boolean due) {
        Check.same(test + call, got, due);
    }

    static void same(String call, double got, double due) {
        Check.same(test + call, got, due);
    }

    static void looks(String call, ComponentTree tree, String due) {
        Check.same(test + call, levelsOf(tree), due);
    }

    static String levelsOf(ComponentTree tree) {
        int columns = tree.count(0);
        int rows = tree.count(1);
        StringBuilder text = new StringBuilder();
        for (int pixel = 0; pixel < columns * rows; pixel++) {
            text.append(pixel > 0 && pixel % columns == 0 ? "/" : "").append(DIGITS.charAt(tree.level(pixel)));
        }
        return text.toString();
    }

    private static String markersOf(ComponentTree tree) {
        int pixels = tree.count(0) * tree.count(1);
        StringBuilder text = new StringBuilder();
        for (int pixel = 0; pixel < pixels; pixel++) {
            text.append(DIGITS.charAt(tree.marker(pixel)));
        }
        return text.toString();
    }

    // ---- refused calls

    /** The object refuses a call, and nothing changes by it that can be asked without an undo. */
    static void refuses(ComponentTree tree, String call, Class<?> due, Deed deed) {
        long before = tree.digest();
        Class<?> got = null;
        try {
            deed.on(tree);
        } catch (RuntimeException thrown) {
            got = thrown.getClass();
        }
        Check.same(test + call + " throws", "" + got, "" + due);
        Check.same(test + call + " refused: digest()", tree.digest(), before);
    }

    /** The same, and the saved images are as they were, too. */
    static void refusesIn(State state, String call, Class<?> due, Deed deed) {
        ComponentTree tree = state.make();
        refuses(tree, call + ", " + state, due, deed);
        checkTrace(tree, state, call);
    }

    static void refuses(String call, Class<?> due, Deed deed) {
        for (State state : State.values()) {
            refusesIn(state, call, due, deed);
        }
    }

    /** Numbers beside a range: just beside it, far away, and such as are in it but for some bits. */
    static int[] outside(int low, int high) {
        TreeSet<Integer> numbers = new TreeSet<>();
        int[] steps = {1, 2, 16, 32, 64, 128, 256, 65536, Integer.MIN_VALUE};
        for (int step : steps) {
            numbers.addAll(List.of(low - step, low + step, high - step, high + step));
        }
        numbers.add(Integer.MIN_VALUE);
        numbers.add(Integer.MAX_VALUE);
        return numbers.stream().mapToInt(number -> number).filter(number -> number < low || number > high).toArray();
    }

    private static void refusesEach(State state, String call, Class<?> due, int[] numbers, Numbered deed) {
        ComponentTree tree = state.make();
        for (int number : numbers) {
            refuses(tree, told(call, number) + ", " + state, due, same -> deed.on(same, number));
        }
        checkTrace(tree, state, call);
    }

    private static String told(String call, int number) {
        return call.replace("#", Integer.toString(number));
    }

    static void noPixel(String call, Numbered deed) {
        for (State state : State.values()) {
            refusesEach(state, call, INDEX, outside(0, state.pixels() - 1), deed);
        }
    }

    static void noNode(String call, Numbered deed) {
        for (State state : State.values()) {
            refusesEach(state, call, INDEX, outside(0, state.make().count(2) - 1), deed);
        }
    }

    static void noLeaf(String call, Numbered deed) {
        for (State state : State.values()) {
            refusesEach(state, call, INDEX, outside(0, state.make().count(3) - 1), deed);
        }
    }

    static void noArgument(String call, int low, int high, Numbered deed) {
        for (State state : State.values()) {
            refusesEach(state, call, ARGUMENT, outside(low, high), deed);
        }
    }

    /** The attributes of filters are 1 and 5 to 11; the other ones of a node are refused as well. */
    static void noFilterAttribute(String call, Numbered deed) {
        noArgument(call, 0, 11, deed);
        for (State state : State.values()) {
            refusesEach(state, call, ARGUMENT, new int[] {0, 2, 3, 4}, deed);
        }
    }

    // ---- what stays

    /** The digests of the image and of all saved ones. It uses the object up. */
    private static List<Long> traceOf(ComponentTree tree) {
        List<Long> trace = new ArrayList<>();
        trace.add(tree.digest());
        for (int left = tree.count(7); left > 0; left--) {
            tree.undo();
            trace.add(tree.digest());
        }
        return trace;
    }

    private static void checkTrace(ComponentTree tree, State state, String call) {
        List<Long> due = TRACES.computeIfAbsent(state, key -> traceOf(key.make()));
        Check.same(test + call + ", " + state + ": the saved images", "" + traceOf(tree), "" + due);
    }

    static void changesNothing(String call, Deed deed) {
        for (State state : State.values()) {
            ComponentTree tree = state.make();
            deed.on(tree);
            checkTrace(tree, state, call);
        }
    }

    /** The images with their markers, now and after each undo; each is asked of an object of its own. */
    private static List<String> picturesAfter(State state, Deed deed) {
        List<String> pictures = new ArrayList<>();
        int saved = 0;
        for (int undone = 0; undone <= saved; undone++) {
            ComponentTree tree = state.make();
            deed.on(tree);
            saved = tree.count(7);
            for (int index = 0; index < undone; index++) {
                tree.undo();
            }
            pictures.add(levelsOf(tree) + " " + markersOf(tree));
        }
        return pictures;
    }

    /** The image before the call is the newest saved one, and of the older ones none but a ninth is gone. */
    static void isStep(String call, Deed deed) {
        for (State state : State.values()) {
            List<String> before = picturesAfter(state, tree -> { });
            List<String> after = picturesAfter(state, deed);
            List<String> due = before.subList(0, Math.min(MOST_SAVED, before.size()));
            Check.same(test + call + ", " + state + " is a step", "" + after.subList(1, after.size()), "" + due);
            checkAsked(state, call, deed);
        }
    }

    static void isNoStep(String call, Deed deed) {
        for (State state : State.values()) {
            List<String> before = picturesAfter(state, tree -> { });
            List<String> after = picturesAfter(state, deed);
            Check.same(test + call + ", " + state + " is no step", "" + after.subList(1, after.size()),
                    "" + before.subList(1, before.size()));
            checkAsked(state, call, deed);
        }
    }

    /** A tree that has been asked before a call is afterwards as one that has not. */
    private static void checkAsked(State state, String call, Deed deed) {
        ComponentTree asked = state.make();
        asked.digest();
        deed.on(asked);
        ComponentTree unasked = state.make();
        deed.on(unasked);
        Check.same(test + call + ", " + state + ": digest() of the one that was asked", asked.digest(), unasked.digest());
    }

    static void markersStay(String call, Deed deed) {
        for (State state : State.values()) {
            String due = markersOf(state.make());
            ComponentTree tree = state.make();
            deed.on(tree);
            Check.same(test + call + ", " + state + ": the markers", markersOf(tree), due);
        }
    }
}
