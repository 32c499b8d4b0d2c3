import java.io.IOException;

/** Each sentence of the document has a test of its own, with the promise's number and the sentence beside it. */
public final class BoundaryTest {
    private BoundaryTest() {
    }

    public static void main(String[] args) throws IOException {
        Boundaries.open(args.length > 0);
        TextBoundaries.tests();
        StepBoundaries.tests();
        EveryBoundaries.tests();
        CallBoundaries.tests();
        Boundaries.close();
        Check.end("BoundaryTest");
    }
}
