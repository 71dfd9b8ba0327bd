/** Each sentence of the document that names a boundary case, with a test of its own that is named for it. */
public final class BoundsTest {
    private BoundsTest() {
    }

    public static void main(String[] args) {
        boolean hold = Bounds.hold(BoundsOfTerms.class);
        hold &= Bounds.hold(BoundsOfTowns.class);
        hold &= Bounds.hold(BoundsOfPromises1To25.class);
        hold &= Bounds.hold(BoundsOfPromises26To47.class);
        if (!hold) {
            System.exit(1);
        }
    }
}
