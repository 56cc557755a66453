import java.util.NoSuchElementException;

/** Promise 13: offer of a SNAPSHOT. */
public final class Promise13OfferSnapshotTest {
    private static final Doc FIRST = World.snapshot(4, 3, 5, 4, 3, 6, 2);

    public static void main(String[] args) {
        Cases.run(Promise13OfferSnapshotTest.class);
    }

    private static Run stamped(Doc snapshot) {
        return Run.withRoot().takes(World.stampOf(1, snapshot));
    }

    /** A client that trusts FIRST, and a stamp of the next one. */
    private static Run before(Doc next) {
        return Run.withSnapshot(FIRST).takes(World.stampOf(1, next));
    }

    private static void follows(int... entries) {
        Doc next = World.snapshot(5, entries);
        before(next).takes(next);
    }

    private static void doesNotFollow(int... entries) {
        Doc next = World.snapshot(5, entries);
        before(next).refuses(UnsupportedOperationException.class, next).trusts(4, 2);
    }

    // "there must be a trusted root that has not ended, and .. for a SNAPSHOT a trusted STAMP that has not ended"
    static void withoutARootItIsRefused() {
        new Run().refuses(IndexOutOfBoundsException.class, FIRST);
    }

    static void withoutAStampItIsRefused() {
        Run.withRoot().refuses(IndexOutOfBoundsException.class, FIRST);
    }

    static void atTheRootsEndItIsRefused() {
        new Run().begins(World.root(1, 50).signed()).takes(World.stampOf(1, FIRST)).due(Call.tick(50), 50)
                .refuses(IndexOutOfBoundsException.class, FIRST);
    }

    static void atTheTickBeforeTheRootsEndItIsTaken() {
        new Run().begins(World.root(1, 50).signed()).takes(World.stampOf(1, FIRST)).due(Call.tick(49), 49).takes(FIRST);
    }

    static void atTheStampsEndItIsRefused() {
        Run.withRoot().takes(Doc.stampFor(1, 50, FIRST).signed(1)).due(Call.tick(50), 50)
                .refuses(IndexOutOfBoundsException.class, FIRST);
    }

    static void atTheTickBeforeTheStampsEndItIsTaken() {
        Run.withRoot().takes(Doc.stampFor(1, 50, FIRST).signed(1)).due(Call.tick(49), 49).takes(FIRST);
    }

    static void afterAForgottenStampItIsRefused() {
        int[] nine = Doc.keys(1, 9);
        stamped(FIRST).takes(Doc.root(2, 500, Doc.keys(1, 0), nine, Doc.keys(1, 2), nine).signed(0))
                .refuses(IndexOutOfBoundsException.class, FIRST);
    }

    // "signed likewise by the SNAPSHOT keys"
    static void notSignedItIsRefused() {
        Doc snapshot = Doc.snapshot(1, 500, 3, 1).signed();
        stamped(snapshot).refuses(IllegalStateException.class, snapshot);
    }

    static void signedByTheKeysOfOtherRolesItIsRefused() {
        Doc snapshot = Doc.snapshot(1, 500, 3, 1).signed(0, 1, 3);
        stamped(snapshot).refuses(IllegalStateException.class, snapshot);
    }

    static void oneLessThanTheThresholdIsRefused() {
        int[] one = Doc.keys(1, 1);
        Doc part = Doc.snapshot(1, 500, 3, 1);
        Run run = new Run().begins(Doc.root(1, 500, one, one, Doc.keys(2, 2, 5, 6), one).signed());
        run.takes(World.stampOf(1, part.signed(5))).refuses(IllegalStateException.class, part.signed(5));
        run.takes(World.stampOf(1, part.signed(5, 5))).refuses(IllegalStateException.class, part.signed(5, 5));
        run.takes(World.stampOf(1, part.signed(5, 2))).takes(part.signed(5, 2));
    }

    // "It must be what the stamp says: version and digest."
    static void oneVersionLessThanStampedIsRefused() {
        Doc snapshot = World.snapshot(3, 3, 1);
        Run.withRoot().takes(Doc.stamp(1, 500, 4, snapshot.digest()).signed(1))
                .refuses(UnsupportedOperationException.class, snapshot);
    }

    static void oneVersionMoreThanStampedIsRefused() {
        Doc snapshot = World.snapshot(5, 3, 1);
        Run.withRoot().takes(Doc.stamp(1, 500, 4, snapshot.digest()).signed(1))
                .refuses(UnsupportedOperationException.class, snapshot);
    }

    static void aDigestThatDiffersInOneBitIsRefused() {
        for (int bit = 0; bit < 32; bit++) {
            Run.withRoot().takes(Doc.stamp(1, 500, 4, FIRST.digest() ^ 1 << bit).signed(1))
                    .refuses(UnsupportedOperationException.class, FIRST);
        }
    }

    static void aDigestWithItsLowestByteFirstIsRefused() {
        Run.withRoot().takes(Doc.stamp(1, 500, 4, Integer.reverseBytes(FIRST.digest())).signed(1))
                .refuses(UnsupportedOperationException.class, FIRST);
    }

    static void versions1And255AreTakenAsStamped() {
        for (int version : new int[] {1, 255}) {
            Doc snapshot = World.snapshot(version, 3, 255);
            stamped(snapshot).takes(snapshot);
        }
    }

    // "(the digest of the whole document)"
    static void oneSignatureMoreIsAnotherDigest() {
        Doc part = Doc.snapshot(4, 500, 3, 1);
        stamped(part.signed(2)).refuses(UnsupportedOperationException.class, part.signed(2, 2))
                .refuses(UnsupportedOperationException.class, part.signed(2, 7)).takes(part.signed(2));
    }

    static void theDigestOfTheSignedPartAloneIsRefused() {
        Doc part = Doc.snapshot(4, 500, 3, 1);
        Run.withRoot().takes(Doc.stamp(1, 500, 4, part.digest()).signed(1))
                .refuses(UnsupportedOperationException.class, part.signed(2));
    }

    static void theSameAgainIsTaken() {
        stamped(FIRST).takes(FIRST).takes(FIRST);
    }

    // "For each role in the trusted snapshot it must have a version that is not less."
    static void theFirstMayHaveAnyVersions() {
        Doc snapshot = World.snapshot(1, 3, 255, 6, 1);
        stamped(snapshot).takes(snapshot);
    }

    static void theSameVersionsAreTaken() {
        follows(3, 5, 4, 3, 6, 2);
    }

    static void greaterVersionsAreTaken() {
        follows(3, 6, 4, 3, 6, 2);
        follows(3, 5, 4, 255, 6, 2);
        follows(3, 5, 4, 3, 6, 3);
    }

    static void oneLessForTargetsIsRefused() {
        doesNotFollow(3, 4, 4, 3, 6, 2);
    }

    static void oneLessForADelegateIsRefused() {
        doesNotFollow(3, 5, 4, 2, 6, 2);
        doesNotFollow(3, 5, 4, 3, 6, 1);
    }

    static void oneLessAmongGreaterOnesIsRefused() {
        doesNotFollow(3, 255, 4, 255, 6, 1);
        doesNotFollow(3, 4, 4, 255, 6, 255);
    }

    static void aRoleThatIsMissingIsRefused() {
        doesNotFollow(3, 5, 4, 3);
        doesNotFollow(3, 5, 6, 2);
        doesNotFollow(3, 255);
    }

    static void aRoleThatIsMissingIsRefusedWithAnotherInItsPlace() {
        doesNotFollow(3, 5, 5, 3, 6, 2);
        doesNotFollow(3, 5, 4, 3, 5, 2);
    }

    static void aNewRoleIsTaken() {
        follows(3, 5, 4, 3, 5, 1, 6, 2);
    }

    static void theTrustedOneBindsWhenItHasEnded() {
        Doc ended = Doc.snapshot(4, 50, 3, 5, 4, 3).signed(2);
        Doc less = World.snapshot(5, 3, 5, 4, 2);
        Doc same = World.snapshot(5, 3, 5, 4, 3);
        Run.withSnapshot(ended).due(Call.tick(50), 50).takes(World.stampOf(1, less))
                .refuses(UnsupportedOperationException.class, less).takes(World.stampOf(1, same)).takes(same);
    }

    // "It must not have ended."
    static void atItsEndItIsRefused() {
        Doc snapshot = Doc.snapshot(4, 50, 3, 5).signed(2);
        stamped(snapshot).due(Call.tick(50), 50).refuses(NoSuchElementException.class, snapshot).trustsNone(2);
    }

    static void behindItsEndItIsRefused() {
        Doc snapshot = Doc.snapshot(4, 50, 3, 5).signed(2);
        stamped(snapshot).due(Call.tick(51), 51).refuses(NoSuchElementException.class, snapshot);
    }

    static void atTheTickBeforeItsEndItIsTaken() {
        Doc snapshot = Doc.snapshot(4, 50, 3, 5).signed(2);
        stamped(snapshot).due(Call.tick(49), 49).takes(snapshot);
    }

    static void anEndOfZeroIsRefusedAtTheFirst() {
        Doc snapshot = Doc.snapshot(4, 0, 3, 5).signed(2);
        stamped(snapshot).refuses(NoSuchElementException.class, snapshot);
    }

    private Promise13OfferSnapshotTest() {
    }
}
