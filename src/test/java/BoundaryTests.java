import java.io.IOException;

/** For each sentence of the document that names a boundary case, a test of its own, on both sides of the boundary. */
public final class BoundaryTests extends Boundaries {
    private BoundaryTests() {
    }

    public static void main(String[] args) throws IOException {
        readDocument();
        PathBoundaries.tests();
        PlaceBoundaries.tests();
        NumberBoundaries.tests();
        MarkBoundaries.tests();
        ActBoundaries.tests();
        dueAllTested();
        tellAll();
    }
}
