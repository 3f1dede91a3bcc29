/** For each sentence of the document that names a boundary case a test, which names its promise. */
final class BoundaryTest {
    private BoundaryTest() {
    }

    public static void main(String[] args) {
        BoundaryImages.all();
        BoundaryInput.all();
        BoundaryTree.all();
        BoundaryFilters.all();
        BoundaryPeaks.all();
        Bounds.checkAllNamed();
        Check.end();
    }
}
