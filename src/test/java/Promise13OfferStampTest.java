import java.util.NoSuchElementException;

/** Promise 13: offer of a STAMP. */
public final class Promise13OfferStampTest {
    public static void main(String[] args) {
        Cases.run(Promise13OfferStampTest.class);
    }

    private static Doc stamp(int version, int snapshotVersion) {
        return Doc.stamp(version, 500, snapshotVersion, 5).signed(1);
    }

    private static Doc ending(int end) {
        return Doc.stamp(1, end, 1, 5).signed(1);
    }

    // "there must be a trusted root that has not ended"
    static void withoutARootItIsRefused() {
        new Run().refuses(IndexOutOfBoundsException.class, stamp(1, 1));
    }

    static void atTheRootsEndItIsRefused() {
        new Run().begins(World.root(1, 50).signed()).due(Call.tick(50), 50)
                .refuses(IndexOutOfBoundsException.class, stamp(1, 1));
    }

    static void atTheTickBeforeTheRootsEndItIsTaken() {
        new Run().begins(World.root(1, 50).signed()).due(Call.tick(49), 49).takes(stamp(1, 1));
    }

    // "for a STAMP nothing more"
    static void aRootAloneIsEnough() {
        Run.withRoot().takes(stamp(1, 1)).trustsNone(2, 3, 4, 5, 6);
    }

    // "signed by the threshold of the STAMP keys of the root"
    static void notSignedItIsRefused() {
        Run.withRoot().refuses(IllegalStateException.class, Doc.stamp(1, 500, 1, 5).signed());
    }

    static void signedByTheKeysOfOtherRolesItIsRefused() {
        Run.withRoot().refuses(IllegalStateException.class, Doc.stamp(1, 500, 1, 5).signed(0, 2, 3));
    }

    static void oneLessThanTheThresholdIsRefused() {
        int[] one = Doc.keys(1, 0);
        new Run().begins(Doc.root(1, 500, one, Doc.keys(3, 1, 2, 3), one, one).signed())
                .refuses(IllegalStateException.class, Doc.stamp(1, 500, 1, 5).signed(1, 2))
                .takes(Doc.stamp(1, 500, 1, 5).signed(1, 2, 3));
    }

    // "Its version must not be less than that of the trusted one"
    static void theFirstMayHaveAnyVersion() {
        Run.withRoot().takes(stamp(255, 255));
        Run.withRoot().takes(stamp(1, 1));
    }

    static void oneVersionLessIsRefused() {
        Run.withRoot().takes(stamp(5, 7)).refuses(UnsupportedOperationException.class, stamp(4, 7));
    }

    static void oneVersionLessIsRefusedWithANewerSnapshotToo() {
        Run.withRoot().takes(stamp(5, 7)).refuses(UnsupportedOperationException.class, stamp(4, 8));
    }

    static void theSameVersionIsTaken() {
        Run.withRoot().takes(stamp(5, 7)).takes(stamp(5, 7));
    }

    static void theSameVersionWithOtherPartsIsTaken() {
        Run.withRoot().takes(stamp(5, 7)).takes(Doc.stamp(5, 400, 7, 6).signed(1));
    }

    static void oneVersionMoreIsTaken() {
        Run.withRoot().takes(stamp(5, 7)).takes(stamp(6, 7));
    }

    static void manyVersionsMoreAreTaken() {
        Run.withRoot().takes(stamp(5, 7)).takes(stamp(255, 7));
    }

    static void version1After255IsRefused() {
        Run.withRoot().takes(stamp(255, 7)).refuses(UnsupportedOperationException.class, stamp(1, 7))
                .takes(stamp(255, 8));
    }

    // "nor the snapshot's version in it than in that one"
    static void oneSnapshotVersionLessIsRefused() {
        Run.withRoot().takes(stamp(5, 7)).refuses(UnsupportedOperationException.class, stamp(5, 6));
    }

    static void oneSnapshotVersionLessIsRefusedWithANewerStampToo() {
        Run.withRoot().takes(stamp(5, 7)).refuses(UnsupportedOperationException.class, stamp(6, 6));
    }

    static void oneSnapshotVersionMoreIsTaken() {
        Run.withRoot().takes(stamp(5, 7)).takes(stamp(5, 8)).takes(stamp(5, 255));
    }

    static void snapshot1After255IsRefused() {
        Run.withRoot().takes(stamp(5, 255)).refuses(UnsupportedOperationException.class, stamp(6, 1));
    }

    static void olderThanTheTrustedSnapshotButNotThanTheStampIsTaken() {
        Doc snapshot = World.snapshot(9, 3, 1);
        Run.withRoot().takes(World.stampOf(1, snapshot)).takes(snapshot)
                .refuses(UnsupportedOperationException.class, stamp(2, 8)).takes(stamp(2, 9));
    }

    static void theTrustedOneBindsWhenItHasEnded() {
        Run.withRoot().takes(Doc.stamp(5, 50, 7, 5).signed(1)).due(Call.tick(50), 50)
                .refuses(UnsupportedOperationException.class, stamp(4, 7))
                .refuses(UnsupportedOperationException.class, stamp(5, 6)).takes(stamp(5, 7));
    }

    static void aRefusedOneBindsNothing() {
        Run.withRoot().takes(stamp(5, 7)).refuses(UnsupportedOperationException.class, stamp(9, 6)).takes(stamp(6, 7));
    }

    static void theTrustedSnapshotStays() {
        Run.withEveryRole().takes(stamp(2, 9)).trusts(1, 2);
    }

    // "It must not have ended."
    static void atItsEndItIsRefused() {
        Run.withRoot().due(Call.tick(300), 300).refuses(NoSuchElementException.class, ending(300));
    }

    static void behindItsEndItIsRefused() {
        Run.withRoot().due(Call.tick(300), 300).refuses(NoSuchElementException.class, ending(299))
                .refuses(NoSuchElementException.class, ending(0));
    }

    static void atTheTickBeforeItsEndItIsTaken() {
        Run.withRoot().due(Call.tick(300), 300).takes(ending(301));
    }

    static void anEndOfZeroIsRefusedAtTheFirst() {
        Run.withRoot().refuses(NoSuchElementException.class, ending(0)).takes(ending(1));
    }

    static void anEarlierEndThanTheTrustedOneIsTaken() {
        Run.withRoot().takes(ending(400)).takes(ending(300));
    }

    private Promise13OfferStampTest() {
    }
}
