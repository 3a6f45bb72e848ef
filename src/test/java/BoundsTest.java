/** Each sentence of the document that names a boundary case has a test of its own in one of these parts. */
public final class BoundsTest {
    private BoundsTest() {
    }

    public static void main(String[] args) {
        TextBounds.run();
        FlatBounds.run();
        ProposalBounds.run();
        DivisionBounds.run();
        ChangeBounds.run();
        Sentences.checkAllQuoted();
        Check.end("BoundsTest");
    }
}
