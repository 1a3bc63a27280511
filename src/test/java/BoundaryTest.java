/** Each sentence of the document that names a boundary case, term by term and promise by promise. */
public final class BoundaryTest {
    private BoundaryTest() {
    }

    public static void main(String[] args) {
        TextBounds.run();
        WinterBounds.run();
        WhatIfBounds.run();
        ActBounds.run();
        RefusedBounds.run();
        Check.everyPromiseWasAsked();
        Check.finish("BoundaryTest");
    }
}
