import java.util.NoSuchElementException;

/** Promise 13: offer of TARGETS and of DELEGATES. */
public final class Promise13OfferTargetsTest {
    public static void main(String[] args) {
        Cases.run(Promise13OfferTargetsTest.class);
    }

    /** Signed by its role's own key, which only TARGETS need. */
    private static Doc document(int role, int version, int end) {
        return World.empty(role, version, end).signed(role);
    }

    /** A client whose snapshot says version 7 for every role. */
    private static Run sevens() {
        return Run.withSnapshot(World.snapshot(1, 3, 7, 4, 7, 5, 7, 6, 7));
    }

    private static Run ending(int rootEnd, int stampEnd, int snapshotEnd) {
        Doc snapshot = Doc.snapshot(1, snapshotEnd, 3, 7, 4, 7, 5, 7, 6, 7).signed(2);
        return new Run().begins(World.root(1, rootEnd).signed()).takes(Doc.stampFor(1, stampEnd, snapshot).signed(1))
                .takes(snapshot);
    }

    // "there must be a trusted root that has not ended, and .. a trusted SNAPSHOT that has not ended"
    static void withoutARootItIsRefused() {
        for (int role = 3; role <= 6; role++) {
            new Run().refuses(IndexOutOfBoundsException.class, document(role, 1, 500));
        }
    }

    static void withoutASnapshotItIsRefused() {
        for (int role = 3; role <= 6; role++) {
            Run.withRoot().takes(Doc.stamp(1, 500, 1, 5).signed(1))
                    .refuses(IndexOutOfBoundsException.class, document(role, 1, 500));
        }
    }

    static void atTheRootsEndItIsRefused() {
        for (int role = 3; role <= 6; role++) {
            ending(50, 90, 90).due(Call.tick(50), 50).refuses(IndexOutOfBoundsException.class, document(role, 7, 500));
        }
    }

    static void atTheTickBeforeTheRootsEndItIsTaken() {
        for (int role = 3; role <= 6; role++) {
            ending(50, 90, 90).due(Call.tick(49), 49).takes(document(role, 7, 500));
        }
    }

    static void atTheSnapshotsEndItIsRefused() {
        for (int role = 3; role <= 6; role++) {
            ending(90, 90, 50).due(Call.tick(50), 50).refuses(IndexOutOfBoundsException.class, document(role, 7, 500));
        }
    }

    static void atTheTickBeforeTheSnapshotsEndItIsTaken() {
        for (int role = 3; role <= 6; role++) {
            ending(90, 90, 50).due(Call.tick(49), 49).takes(document(role, 7, 500));
        }
    }

    static void aStampThatHasEndedDoesNotHinder() {
        for (int role = 3; role <= 6; role++) {
            ending(90, 50, 90).due(Call.tick(50), 50).takes(document(role, 7, 500));
        }
    }

    static void afterAForgottenSnapshotItIsRefused() {
        Doc root = Doc.root(2, 500, Doc.keys(1, 0), Doc.keys(1, 9), Doc.keys(1, 2), Doc.keys(1, 3));
        for (int role = 3; role <= 6; role++) {
            sevens().takes(root.signed(0)).refuses(IndexOutOfBoundsException.class, document(role, 7, 500));
        }
    }

    // "or the snapshot has no version for the role"
    static void aRoleThatTheSnapshotDoesNotHaveIsRefused() {
        Run.withSnapshot(World.snapshot(1, 3, 7)).refuses(IndexOutOfBoundsException.class, document(4, 7, 500))
                .refuses(IndexOutOfBoundsException.class, document(5, 7, 500))
                .refuses(IndexOutOfBoundsException.class, document(6, 7, 500)).takes(document(3, 7, 500));
    }

    static void aRoleBetweenThoseOfTheSnapshotIsRefused() {
        Run.withSnapshot(World.snapshot(1, 3, 7, 4, 7, 6, 7))
                .refuses(IndexOutOfBoundsException.class, document(5, 7, 500))
                .takes(document(4, 7, 500)).takes(document(6, 7, 500));
    }

    static void aRoleThatAnEarlierSnapshotHadIsRefused() {
        Doc less = Doc.snapshot(1, 500, 3, 7).signed(9);
        Doc root = Doc.root(2, 500, Doc.keys(1, 0), Doc.keys(1, 1), Doc.keys(1, 9), Doc.keys(1, 3));
        sevens().takes(root.signed(0)).takes(World.stampOf(1, less)).takes(less)
                .refuses(IndexOutOfBoundsException.class, document(4, 7, 500));
    }

    // "TARGETS: signed likewise by the TARGETS keys"
    static void targetsThatAreNotSignedAreRefused() {
        sevens().refuses(IllegalStateException.class, World.empty(3, 7, 500).signed());
    }

    static void targetsSignedByTheKeysOfOtherRolesAreRefused() {
        sevens().refuses(IllegalStateException.class, World.empty(3, 7, 500).signed(0, 1, 2));
    }

    static void targetsSignedByOneLessThanTheThresholdAreRefused() {
        Doc snapshot = World.snapshot(1, 3, 7);
        Doc root = Doc.root(1, 500, Doc.keys(1, 0), Doc.keys(1, 1), Doc.keys(1, 2), Doc.keys(4, 3, 4, 5, 6));
        new Run().begins(root.signed()).takes(World.stampOf(1, snapshot)).takes(snapshot)
                .refuses(IllegalStateException.class, World.empty(3, 7, 500).signed(3, 4, 5))
                .refuses(IllegalStateException.class, World.empty(3, 7, 500).signed(3, 4, 5, 5, 5, 5))
                .takes(World.empty(3, 7, 500).signed(3, 4, 5, 6));
    }

    // "DELEGATES need no signatures for this"
    static void delegatesThatAreNotSignedAreTaken() {
        for (int role = 4; role <= 6; role++) {
            sevens().takes(World.empty(role, 7, 500).signed());
        }
    }

    static void delegatesWithWrongSignaturesAreTaken() {
        for (int role = 4; role <= 6; role++) {
            sevens().takes(World.empty(role, 7, 500).with(2, 0, 1, 2, 3, 4, 9, 0, 0, 0, 0));
        }
    }

    static void delegatesThatNobodyDelegatedToAreTaken() {
        sevens().takes(World.targets(7, World.NO, World.NO)).takes(document(5, 7, 500));
    }

    static void delegatesAreTakenBeforeTheTargets() {
        sevens().takes(document(6, 7, 500)).trustsNone(3);
    }

    // "The version must be what the snapshot says for the role."
    static void oneVersionLessIsRefused() {
        for (int role = 3; role <= 6; role++) {
            sevens().refuses(UnsupportedOperationException.class, document(role, 6, 500));
        }
    }

    static void oneVersionMoreIsRefused() {
        for (int role = 3; role <= 6; role++) {
            sevens().refuses(UnsupportedOperationException.class, document(role, 8, 500));
        }
    }

    static void theVersionForAnotherRoleIsRefused() {
        Run.withSnapshot(World.snapshot(1, 3, 1, 4, 2, 5, 3, 6, 4))
                .refuses(UnsupportedOperationException.class, document(3, 2, 500))
                .refuses(UnsupportedOperationException.class, document(4, 3, 500))
                .refuses(UnsupportedOperationException.class, document(5, 4, 500))
                .refuses(UnsupportedOperationException.class, document(6, 1, 500))
                .takes(document(3, 1, 500)).takes(document(4, 2, 500)).takes(document(5, 3, 500))
                .takes(document(6, 4, 500));
    }

    static void versions1And255AreTaken() {
        for (int version : new int[] {1, 255}) {
            Run run = Run.withSnapshot(World.snapshot(1, 3, version, 4, version, 5, version, 6, version));
            for (int role = 3; role <= 6; role++) {
                run.takes(document(role, version, 500));
            }
        }
    }

    static void theVersionThatTheSnapshotBeforeSaidIsRefused() {
        Doc next = World.snapshot(2, 3, 8, 4, 8, 5, 8, 6, 8);
        for (int role = 3; role <= 6; role++) {
            sevens().takes(document(role, 7, 500)).takes(World.stampOf(2, next)).takes(next)
                    .refuses(UnsupportedOperationException.class, document(role, 7, 500)).trusts(7, role)
                    .takes(document(role, 8, 500));
        }
    }

    static void anotherDocumentOfTheSameVersionTakesItsPlace() {
        sevens().takes(document(3, 7, 500)).finds("a", TrustedUpdates.NONE, 1)
                .takes(World.targets(7, new int[][] {Doc.targetOf("a")}, World.NO)).finds("a", 3, 1)
                .takes(document(3, 7, 400)).finds("a", TrustedUpdates.NONE, 1);
    }

    static void nothingElseChanges() {
        Doc targets = World.targets(7, new int[][] {Doc.targetOf("a")}, World.NO);
        sevens().takes(targets).due(Call.install("a"), 3).due(Call.tick(9), 9).keeps(5).takes(targets)
                .hasDraft(targets.bytes).due(Call.tick(0), 9).due(Call.visits(), 1).due(Call.installed(), 1)
                .trusts(1, 0, 1, 2).trustsNone(4, 5, 6)
                .does(Call.cut(0), Call.digest()).hasDraft(Doc.word(Doc.mix(new int[] {5}, 1, 0)));
    }

    static void theDraftCanBeAlteredAfterItIsTaken() {
        sevens().takes(World.targets(7, new int[][] {Doc.targetOf("a")}, World.NO))
                .does(Call.alter(1, 9), Call.alter(6, 'b'), Call.cut(7)).trusts(7, 3).finds("a", 3, 1)
                .finds("b", TrustedUpdates.NONE, 1);
    }

    static void anotherRolesDocumentStays() {
        sevens().takes(document(4, 7, 400)).takes(document(5, 7, 300)).due(Call.trusted(4, true), 400);
    }

    // "It must not have ended."
    static void atItsEndItIsRefused() {
        for (int role = 3; role <= 6; role++) {
            sevens().due(Call.tick(50), 50).refuses(NoSuchElementException.class, document(role, 7, 50))
                    .trustsNone(role);
        }
    }

    static void behindItsEndItIsRefused() {
        for (int role = 3; role <= 6; role++) {
            sevens().due(Call.tick(50), 50).refuses(NoSuchElementException.class, document(role, 7, 49))
                    .refuses(NoSuchElementException.class, document(role, 7, 0));
        }
    }

    static void atTheTickBeforeItsEndItIsTaken() {
        for (int role = 3; role <= 6; role++) {
            sevens().due(Call.tick(50), 50).takes(document(role, 7, 51));
        }
    }

    static void anEndOfZeroIsRefusedAtTheFirst() {
        for (int role = 3; role <= 6; role++) {
            sevens().refuses(NoSuchElementException.class, document(role, 7, 0)).takes(document(role, 7, 1));
        }
    }

    static void itTakesThePlaceOfOneThatHasEnded() {
        for (int role = 3; role <= 6; role++) {
            sevens().takes(document(role, 7, 50)).due(Call.tick(50), 50).takes(document(role, 7, 60));
        }
    }

    private Promise13OfferTargetsTest() {
    }
}
