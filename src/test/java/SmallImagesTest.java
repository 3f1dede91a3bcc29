/**
 * Every image of some small shapes, by both kinds of the tree and both connectivities, compared with
 * the document's words (Oracle): the whole state (promise 38), and once more after one of the changes
 * of promises 32 and 34 to 36.
 */
final class SmallImagesTest {
    /** Columns, rows, and how many levels there are, spread over 0 to 15. */
    private static final int[][] SHAPES = {
        {1, 1, 16}, {2, 1, 16}, {1, 2, 16}, {3, 1, 6}, {1, 4, 4}, {2, 2, 4}, {3, 2, 3}, {2, 3, 3}, {3, 3, 2}, {1, 8, 2}
    };
    private static final int[] FILTER_ATTRIBUTES = {1, 5, 6, 7, 8, 9, 10, 11};
    private static final int MODES = 4;

    private final ComponentTree tree = new ComponentTree();
    private final Oracle oracle = new Oracle();
    private final String name;

    private SmallImagesTest(int[] shape, int image, int mode) {
        name = "image " + image + " of " + shape[0] + " columns, " + shape[1] + " rows, " + shape[2]
                + " levels, mode " + mode;
        tree.setDark(mode % 2 == 1);
        oracle.setDark(mode % 2 == 1);
        tree.setEight(mode / 2 == 1);
        oracle.setEight(mode / 2 == 1);
        tree.begin(shape[0], shape[1]);
        oracle.begin(shape[0], shape[1]);
        int rest = image;
        for (int pixel = 0; pixel < shape[0] * shape[1]; pixel++) {
            put(pixel, rest % shape[2] * 15 / (shape[2] - 1), (image * 7 + pixel * 5) % 16);
            rest /= shape[2];
        }
    }

    public static void main(String[] args) {
        for (int[] shape : SHAPES) {
            int images = 1;
            for (int pixel = 0; pixel < shape[0] * shape[1]; pixel++) {
                images *= shape[2];
            }
            for (int image = 0; image < images; image++) {
                for (int mode = 0; mode < MODES; mode++) {
                    new SmallImagesTest(shape, image, mode).compare(image);
                }
            }
        }
        Check.end();
    }

    private void put(int pixel, int level, int marker) {
        tree.setLevel(pixel, level);
        oracle.setLevel(pixel, level);
        tree.setMarker(pixel, marker);
        oracle.setMarker(pixel, marker);
    }

    private void compare(int image) {
        Check.same(name + ": digest()", tree.digest(), oracle.digest());
        change(image);
        Check.same(name + ": digest() after a change", tree.digest(), oracle.digest());
    }

    private void change(int image) {
        switch (image % 4) {
            case 0:
                Check.same(name + ": reconstruct()", tree.reconstruct(), oracle.reconstruct());
                break;
            case 1:
                int height = image / 4 % 16;
                Check.same(name + ": suppress(" + height + ")", tree.suppress(height), oracle.suppress(height));
                break;
            case 2:
                int many = image / 4 % 4;
                Check.same(name + ": keepPeaks(" + many + ")", tree.keepPeaks(many), oracle.keepPeaks(many));
                break;
            default:
                int attribute = FILTER_ATTRIBUTES[image / 4 % FILTER_ATTRIBUTES.length];
                int threshold = image / 32 % 9;
                int rule = image / 12 % 4;
                Check.same(name + ": filter(" + attribute + ", " + threshold + ", " + rule + ")",
                        tree.filter(attribute, threshold, rule), oracle.filter(attribute, threshold, rule));
        }
    }
}
