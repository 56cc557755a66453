/** Promise 13: offer of a ROOT. */
public final class Promise13OfferRootTest {
    private static final int[] K0 = Doc.keys(1, 0);
    private static final int[] K1 = Doc.keys(1, 1);
    private static final int[] K2 = Doc.keys(1, 2);
    private static final int[] K3 = Doc.keys(1, 3);

    public static void main(String[] args) {
        Cases.run(Promise13OfferRootTest.class);
    }

    /** A client that trusts a document of every role, all of version 1. */
    private static Run trusting(Doc root) {
        Doc snapshot = World.snapshot(1, 3, 1, 4, 1, 5, 1, 6, 1);
        return new Run().begins(root.signed()).takes(World.stampOf(1, snapshot)).takes(snapshot)
                .takes(World.targets(1, new int[][] {Doc.targetOf("a")}, World.NO))
                .takes(World.empty(4, 1, 500).signed()).takes(World.empty(5, 1, 500).signed())
                .takes(World.empty(6, 1, 500).signed());
    }

    private static Run with(int version) {
        return new Run().begins(World.root(version, 500).signed());
    }

    private static Doc root(int version, int[] rootKeys) {
        return Doc.root(version, 500, rootKeys, K1, K2, K3);
    }

    private static void forgets(Doc before, Doc next) {
        trusting(before).takes(next.signed(0)).trusts(2, 0).trustsNone(1, 2).trusts(1, 3, 4, 5, 6)
                .refuses(IllegalStateException.class, Call.seek("a"));
    }

    private static void keeps(Doc next) {
        trusting(World.ROOT).takes(next.signed(0)).trusts(2, 0).trusts(1, 1, 2, 3, 4, 5, 6).finds("a", 3, 1);
    }

    // "IndexOutOfBoundsException when what there must be is not there"
    static void withoutATrustedRootItIsRefused() {
        new Run().refuses(IndexOutOfBoundsException.class, World.root(1, 500).signed(0));
        new Run().refuses(IndexOutOfBoundsException.class, World.root(2, 500).signed(0));
    }

    // "its version must be one more than that of the trusted one"
    static void oneVersionMoreIsTaken() {
        with(1).takes(World.root(2, 500).signed(0)).takes(World.root(3, 500).signed(0));
    }

    static void theSameVersionIsRefused() {
        with(4).refuses(UnsupportedOperationException.class, World.root(4, 500).signed(0));
    }

    static void anOlderVersionIsRefused() {
        with(4).refuses(UnsupportedOperationException.class, World.root(3, 500).signed(0))
                .refuses(UnsupportedOperationException.class, World.root(1, 500).signed(0));
    }

    static void twoVersionsMoreIsRefused() {
        with(4).refuses(UnsupportedOperationException.class, World.root(6, 500).signed(0))
                .refuses(UnsupportedOperationException.class, World.root(255, 500).signed(0));
    }

    static void version255Follows254() {
        with(254).takes(World.root(255, 500).signed(0));
    }

    static void nothingFollows255() {
        with(255).refuses(UnsupportedOperationException.class, World.root(1, 500).signed(0))
                .refuses(UnsupportedOperationException.class, World.root(255, 500).signed(0))
                .refuses(UnsupportedOperationException.class, World.root(254, 500).signed(0))
                .refuses(IllegalArgumentException.class, World.root(0, 500).signed(0));
    }

    // "it must be signed by the threshold of the ROOT keys of the trusted root, and of its own"
    static void theOldAndTheNewKeyAreEnough() {
        with(1).takes(root(2, Doc.keys(1, 5)).signed(0, 5));
        with(1).takes(root(2, Doc.keys(1, 5)).signed(5, 0));
    }

    static void theOldKeyAloneIsRefused() {
        with(1).refuses(IllegalStateException.class, root(2, Doc.keys(1, 5)).signed(0));
    }

    static void theNewKeyAloneIsRefused() {
        with(1).refuses(IllegalStateException.class, root(2, Doc.keys(1, 5)).signed(5));
    }

    static void noSignatureIsRefused() {
        with(1).refuses(IllegalStateException.class, root(2, K0).signed());
    }

    static void theKeysOfOtherRolesAreRefused() {
        with(1).refuses(IllegalStateException.class, root(2, K0).signed(1, 2, 3));
    }

    static void oneSignatureCountsForBothSets() {
        with(1).takes(root(2, Doc.keys(1, 0, 5)).signed(0));
    }

    static void justBothThresholdsAreEnough() {
        Run run = new Run().begins(root(1, Doc.keys(2, 0, 1, 2)).signed());
        run.takes(root(2, Doc.keys(3, 2, 3, 4, 5)).signed(1, 2, 3, 4));
    }

    static void oneLessThanTheOldThresholdIsRefused() {
        Run run = new Run().begins(root(1, Doc.keys(2, 0, 1, 2)).signed());
        run.refuses(IllegalStateException.class, root(2, Doc.keys(3, 2, 3, 4, 5)).signed(2, 3, 4, 5));
    }

    static void oneLessThanTheNewThresholdIsRefused() {
        Run run = new Run().begins(root(1, Doc.keys(2, 0, 1, 2)).signed());
        run.refuses(IllegalStateException.class, root(2, Doc.keys(3, 2, 3, 4, 5)).signed(0, 1, 2, 3));
    }

    static void theKeysOfTheRootBeforeTheTrustedOneCountNoMore() {
        with(1).takes(root(2, Doc.keys(1, 5)).signed(0, 5))
                .refuses(IllegalStateException.class, root(3, K0).signed(0))
                .takes(root(3, K0).signed(0, 5));
    }

    // "(It may have ended.)"
    static void aRootThatHasEndedIsTaken() {
        with(1).due(Call.tick(300), 300).takes(World.root(2, 300).signed(0)).takes(World.root(3, 0).signed(0));
    }

    static void itIsTakenAfterARootThatHasEnded() {
        new Run().begins(World.root(1, 300).signed()).due(Call.tick(300), 300).takes(World.root(2, 301).signed(0))
                .takes(Doc.stamp(1, 400, 1, 0).signed(1));
    }

    // "If the keys or the threshold for STAMP or SNAPSHOT are not the same any more, the documents for both are not .."
    static void anotherStampKeyForgetsBoth() {
        forgets(World.ROOT, Doc.root(2, 500, K0, Doc.keys(1, 9), K2, K3));
    }

    static void anotherSnapshotKeyForgetsBoth() {
        forgets(World.ROOT, Doc.root(2, 500, K0, K1, Doc.keys(1, 9), K3));
    }

    static void oneMoreStampKeyForgetsBoth() {
        forgets(World.ROOT, Doc.root(2, 500, K0, Doc.keys(1, 1, 9), K2, K3));
        forgets(World.ROOT, Doc.root(2, 500, K0, Doc.keys(1, 0, 1), K2, K3));
    }

    static void oneMoreSnapshotKeyForgetsBoth() {
        forgets(World.ROOT, Doc.root(2, 500, K0, K1, Doc.keys(1, 2, 9), K3));
        forgets(World.ROOT, Doc.root(2, 500, K0, K1, Doc.keys(1, 0, 2), K3));
    }

    static void oneStampKeyLessForgetsBoth() {
        forgets(Doc.root(1, 500, K0, Doc.keys(1, 1, 9), K2, K3), Doc.root(2, 500, K0, K1, K2, K3));
    }

    static void oneSnapshotKeyLessForgetsBoth() {
        forgets(Doc.root(1, 500, K0, K1, Doc.keys(1, 2, 9), K3), Doc.root(2, 500, K0, K1, K2, K3));
    }

    static void anotherLastStampKeyForgetsBoth() {
        forgets(Doc.root(1, 500, K0, Doc.keys(1, 1, 2, 3, 8), K2, K3),
                Doc.root(2, 500, K0, Doc.keys(1, 1, 2, 3, 9), K2, K3));
    }

    static void anotherLastSnapshotKeyForgetsBoth() {
        forgets(Doc.root(1, 500, K0, K1, Doc.keys(1, 2, 3, 4, 8), K3),
                Doc.root(2, 500, K0, K1, Doc.keys(1, 2, 3, 4, 9), K3));
    }

    static void anotherStampThresholdAloneForgetsBoth() {
        forgets(Doc.root(1, 500, K0, Doc.keys(1, 1, 9), K2, K3), Doc.root(2, 500, K0, Doc.keys(2, 1, 9), K2, K3));
    }

    static void anotherSnapshotThresholdAloneForgetsBoth() {
        forgets(Doc.root(1, 500, K0, K1, Doc.keys(1, 2, 9), K3), Doc.root(2, 500, K0, K1, Doc.keys(2, 2, 9), K3));
    }

    static void exchangedStampAndSnapshotKeysForgetBoth() {
        forgets(World.ROOT, Doc.root(2, 500, K0, K2, K1, K3));
    }

    static void whatIsForgottenDoesNotComeBackWithTheOldKeys() {
        trusting(World.ROOT).takes(Doc.root(2, 500, K0, Doc.keys(1, 9), K2, K3).signed(0))
                .takes(World.root(3, 500).signed(0)).trustsNone(1, 2);
    }

    static void whatIsForgottenBindsNoMore() {
        Doc older = Doc.snapshot(1, 500, 3, 1).signed(9);
        Run.withRoot().takes(Doc.stamp(9, 500, 9, 0).signed(1))
                .takes(Doc.root(2, 500, K0, K1, Doc.keys(1, 9), K3).signed(0))
                .takes(World.stampOf(1, older)).takes(older);
    }

    static void aSnapshotThatIsForgottenMayBeFollowedByOneWithLess() {
        Doc less = Doc.snapshot(1, 500, 3, 1).signed(9);
        Run.withSnapshot(World.snapshot(1, 3, 5, 4, 5)).takes(Doc.root(2, 500, K0, K1, Doc.keys(1, 9), K3).signed(0))
                .takes(World.stampOf(1, less)).takes(less);
    }

    static void aRefusedRootWithOtherKeysForgetsNothing() {
        int[] nine = Doc.keys(1, 9);
        trusting(World.ROOT).refuses(IllegalStateException.class, Doc.root(2, 500, K0, nine, nine, nine).signed(1))
                .refuses(UnsupportedOperationException.class, Doc.root(3, 500, K0, nine, nine, nine).signed(0))
                .trusts(1, 0, 1, 2, 3, 4, 5, 6);
    }

    // "A NEW ROOT DOES NOT CHANGE what is trusted but as said."
    static void theSameKeysKeepAll() {
        keeps(World.root(2, 500));
    }

    static void theSameFourKeysKeepAll() {
        int[] four = Doc.keys(2, 1, 2, 4, 7);
        Doc snapshot = Doc.snapshot(1, 500, 3, 1).signed(4, 7);
        new Run().begins(Doc.root(1, 500, K0, four, four, K3).signed())
                .takes(Doc.stampFor(1, 500, snapshot).signed(1, 2)).takes(snapshot)
                .takes(Doc.root(2, 500, K0, four, four, K3).signed(0)).trusts(1, 1, 2);
    }

    static void theSameSetsWithTheFirstAndTheLastKeyKeepAll() {
        int[] ends = Doc.keys(1, 0, 9);
        Doc snapshot = Doc.snapshot(1, 500, 3, 1).signed(9);
        new Run().begins(Doc.root(1, 500, K0, ends, ends, K3).signed())
                .takes(Doc.stampFor(1, 500, snapshot).signed(0)).takes(snapshot)
                .takes(Doc.root(2, 500, K0, ends, ends, K3).signed(0)).trusts(1, 1, 2);
    }

    static void otherRootKeysKeepAll() {
        keeps(root(2, Doc.keys(1, 0, 9)));
    }

    static void otherTargetsKeysKeepAll() {
        keeps(Doc.root(2, 500, K0, K1, K2, Doc.keys(1, 9)));
    }

    static void anotherTargetsThresholdKeepsAll() {
        keeps(Doc.root(2, 500, K0, K1, K2, Doc.keys(2, 3, 4)));
    }

    static void anotherEndKeepsAll() {
        keeps(World.root(2, 1));
    }

    static void otherTargetsKeysCountForTheNextTargets() {
        trusting(World.ROOT).takes(Doc.root(2, 500, K0, K1, K2, Doc.keys(1, 9)).signed(0))
                .refuses(IllegalStateException.class, World.empty(3, 1, 500).signed(3))
                .takes(World.empty(3, 1, 500).signed(9));
    }

    private Promise13OfferRootTest() {
    }
}
