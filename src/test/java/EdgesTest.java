/** Boundary cases of all promises; each sentence of the document must have been quoted by at least one test. */
public final class EdgesTest {
    public static void main(String[] args) {
        TermEdges.run();
        RoofEdges.run();
        LockEdges.run();
        HoursEdges.run();
        RainsEdges.run();
        HeirsEdges.run();
        TextEdges.run();
        SheetEdges.run();
        ImageEdges.run();
        Edge.all();
        Check.end();
    }
}
