import java.io.IOException;

/**
 * Each sentence of the document that names a boundary case, tested on its own and named with its
 * promise: too small, too large, empty, full, a wrap-around, a refused call.
 */
public final class BoundaryTest {
    private BoundaryTest() {
    }

    public static void main(String[] args) throws IOException {
        Sentence.readDocument(args.length > 0 ? args[0] : "../shared/DOC.md");
        InputBounds.testAll();
        ScreensBounds.testAll();
        GrowthBounds.testAll();
        DotsBounds.testAll();
        GainBounds.testAll();
        SeveralBounds.testAll();
        AllBounds.testAll();
        Sentence.needTestsOfAllPromises();
        Due.finish("BoundaryTest");
    }
}
