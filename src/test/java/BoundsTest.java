/** Every sentence of 'Terms' and of the promises, with the cases at its bounds. */
public final class BoundsTest {
    private BoundsTest() {
    }

    public static void main(String[] args) {
        TextBounds.run();
        FaultBounds.run();
        ActBounds.run();
        ThoughtBounds.run();
        TapeBounds.run();
        StateBounds.run();
        CallBounds.run();
        AnswerBounds.run();
        BookBounds.run();
        ImageBounds.run();
        Bounds.close();
    }
}
