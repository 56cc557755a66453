import java.util.NoSuchElementException;

/**
 * Promise 13: "where several exceptions that a call names fit, it is the one that it names first": each pair of them,
 * for each role where both can fit.
 */
public final class Promise13OfferOrderTest {
    private static final Doc NEXT = World.snapshot(2, 3, 2, 4, 2, 5, 2, 6, 2);

    public static void main(String[] args) {
        Cases.run(Promise13OfferOrderTest.class);
    }

    /** A client with stamp 2 and snapshot 2, at tick 100. */
    private static Run client() {
        return Run.withRoot().takes(World.stampOf(2, NEXT)).takes(NEXT).due(Call.tick(100), 100);
    }

    /** One whose root, stamp and snapshot have ended. */
    private static Run ended() {
        return client().due(Call.tick(900), 1000);
    }

    private static Doc[] signedAndRight() {
        return new Doc[] {World.stampOf(2, NEXT), NEXT, World.empty(3, 2, 500).signed(3),
            World.empty(4, 2, 500).signed()};
    }

    static void malformedComesBeforeNoRoot() {
        new Run().refuses(IllegalArgumentException.class, World.root(1, 500).signed(0).with(0));
        for (Doc document : signedAndRight()) {
            new Run().refuses(IllegalArgumentException.class, document.with(0));
        }
    }

    static void malformedComesBeforeWhatHasEnded() {
        for (Doc document : signedAndRight()) {
            ended().refuses(IllegalArgumentException.class, document.with(0));
        }
    }

    static void malformedComesBeforeNoVersionForTheRole() {
        Run.withSnapshot(World.snapshot(1, 3, 1)).refuses(IllegalArgumentException.class, World.empty(4, 1, 500));
    }

    static void malformedComesBeforeNotSigned() {
        client().refuses(IllegalArgumentException.class, World.root(2, 500).signed().with(0))
                .refuses(IllegalArgumentException.class, Doc.stamp(2, 500, 2, 5).signed().with(0))
                .refuses(IllegalArgumentException.class, Doc.snapshot(2, 500, 3, 2).signed().with(0))
                .refuses(IllegalArgumentException.class, World.empty(3, 2, 500).signed().with(0));
    }

    static void malformedComesBeforeAWrongVersion() {
        client().refuses(IllegalArgumentException.class, World.root(0, 500).signed(0))
                .refuses(IllegalArgumentException.class, Doc.stamp(0, 500, 2, 5).signed(1))
                .refuses(IllegalArgumentException.class, Doc.snapshot(0, 500, 3, 2).signed(2))
                .refuses(IllegalArgumentException.class, World.empty(3, 0, 500).signed(3))
                .refuses(IllegalArgumentException.class, World.empty(4, 0, 500).signed());
    }

    static void malformedComesBeforeItsEnd() {
        client().refuses(IllegalArgumentException.class, Doc.stamp(2, 100, 2, 5).signed(1).with(0))
                .refuses(IllegalArgumentException.class, World.empty(3, 2, 100).signed(3).with(0))
                .refuses(IllegalArgumentException.class, World.empty(4, 2, 100).signed().with(0));
    }

    static void noRootComesBeforeNotSigned() {
        new Run().refuses(IndexOutOfBoundsException.class, World.root(2, 500).signed())
                .refuses(IndexOutOfBoundsException.class, Doc.stamp(1, 500, 1, 5).signed());
    }

    static void noStampComesBeforeNotSigned() {
        Run.withRoot().refuses(IndexOutOfBoundsException.class, Doc.snapshot(1, 500, 3, 1).signed());
    }

    static void noSnapshotComesBeforeNotSigned() {
        Run.withRoot().refuses(IndexOutOfBoundsException.class, World.empty(3, 1, 500).signed());
    }

    static void whatHasEndedComesBeforeNotSigned() {
        ended().refuses(IndexOutOfBoundsException.class, Doc.stamp(2, 2000, 2, 5).signed())
                .refuses(IndexOutOfBoundsException.class, Doc.snapshot(2, 2000, 3, 2).signed())
                .refuses(IndexOutOfBoundsException.class, World.empty(3, 2, 2000).signed());
    }

    static void whatHasEndedComesBeforeAWrongVersion() {
        ended().refuses(IndexOutOfBoundsException.class, Doc.stamp(1, 2000, 1, 5).signed(1))
                .refuses(IndexOutOfBoundsException.class, Doc.snapshot(1, 2000, 3, 1).signed(2))
                .refuses(IndexOutOfBoundsException.class, World.empty(3, 1, 2000).signed(3))
                .refuses(IndexOutOfBoundsException.class, World.empty(4, 1, 2000).signed());
    }

    static void whatHasEndedComesBeforeItsEnd() {
        ended().refuses(IndexOutOfBoundsException.class, Doc.stamp(2, 100, 2, 5).signed(1))
                .refuses(IndexOutOfBoundsException.class, World.empty(3, 2, 100).signed(3))
                .refuses(IndexOutOfBoundsException.class, World.empty(4, 2, 100).signed());
    }

    static void noVersionForTheRoleComesBeforeItsEnd() {
        Run.withSnapshot(World.snapshot(1, 3, 1))
                .refuses(IndexOutOfBoundsException.class, World.empty(4, 1, 0).signed());
    }

    static void notSignedComesBeforeAWrongVersion() {
        client().refuses(IllegalStateException.class, World.root(3, 500).signed(1))
                .refuses(IllegalStateException.class, World.root(1, 500).signed())
                .refuses(IllegalStateException.class, Doc.stamp(1, 500, 2, 5).signed(2))
                .refuses(IllegalStateException.class, Doc.stamp(2, 500, 1, 5).signed(2))
                .refuses(IllegalStateException.class, Doc.snapshot(1, 500, 3, 1).signed(1))
                .refuses(IllegalStateException.class, World.empty(3, 1, 500).signed(1));
    }

    static void notSignedComesBeforeAWrongDigest() {
        client().refuses(IllegalStateException.class, Doc.snapshot(2, 500, 3, 2, 4, 2, 5, 2, 6, 2).signed(1));
    }

    static void notSignedComesBeforeItsEnd() {
        client().refuses(IllegalStateException.class, Doc.stamp(2, 100, 2, 5).signed())
                .refuses(IllegalStateException.class, Doc.snapshot(2, 100, 3, 2).signed())
                .refuses(IllegalStateException.class, World.empty(3, 2, 100).signed());
    }

    static void aWrongVersionComesBeforeItsEnd() {
        client().refuses(UnsupportedOperationException.class, Doc.stamp(1, 100, 2, 5).signed(1))
                .refuses(UnsupportedOperationException.class, Doc.stamp(2, 100, 1, 5).signed(1))
                .refuses(UnsupportedOperationException.class, Doc.snapshot(1, 100, 3, 2).signed(2))
                .refuses(UnsupportedOperationException.class, World.empty(3, 1, 100).signed(3))
                .refuses(UnsupportedOperationException.class, World.empty(4, 1, 100).signed());
    }

    static void aWrongDigestComesBeforeItsEnd() {
        client().refuses(UnsupportedOperationException.class, Doc.snapshot(2, 100, 3, 2, 4, 2, 5, 2, 6, 2).signed(2));
    }

    static void aLesserVersionInASnapshotComesBeforeItsEnd() {
        Doc less = Doc.snapshot(3, 100, 3, 1, 4, 2, 5, 2, 6, 2).signed(2);
        client().takes(World.stampOf(3, less)).refuses(UnsupportedOperationException.class, less);
    }

    static void anEndAloneIsTheLast() {
        Doc late = Doc.snapshot(3, 100, 3, 2, 4, 2, 5, 2, 6, 2).signed(2);
        client().refuses(NoSuchElementException.class, Doc.stamp(2, 100, 2, 5).signed(1))
                .refuses(NoSuchElementException.class, World.empty(3, 2, 100).signed(3))
                .refuses(NoSuchElementException.class, World.empty(4, 2, 100).signed())
                .takes(World.stampOf(3, late)).refuses(NoSuchElementException.class, late);
    }

    private Promise13OfferOrderTest() {
    }
}
