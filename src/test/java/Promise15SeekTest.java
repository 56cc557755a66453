/** Promise 15: seek: names, and what there must be (how a name is sought stands in its own test). */
public final class Promise15SeekTest {
    private static final long EIGHT_LETTERS = 0x6161616161616161L;

    public static void main(String[] args) {
        Cases.run(Promise15SeekTest.class);
    }

    private static Run client() {
        return new Net().role(3, Net.names("a", "ab", "zzz", "azaz")).run;
    }

    private static void noName(long w, int n) {
        client().refuses(IllegalArgumentException.class, Call.seek(w, n));
    }

    /** A client whose documents have these ends, and the target a. */
    private static Run ending(int root, int stamp, int snapshot, int targets) {
        Doc shot = Doc.snapshot(1, snapshot, 3, 1).signed(2);
        return new Run().begins(World.root(1, root).signed()).takes(Doc.stampFor(1, stamp, shot).signed(1)).takes(shot)
                .takes(Doc.targets(3, 1, targets, Net.names("a"), World.NO).signed(3));
    }

    private static void livesUntil50(Run run) {
        run.due(Call.tick(49), 49).finds("a", 3, 1).due(Call.tick(1), 50)
                .refuses(IllegalStateException.class, Call.seek("a"));
    }

    // "SEEKS the name of n letters, the lowest byte of w first"
    static void namesOfOneToFourLettersAreFound() {
        client().due(Call.seek('a', 1), 3).due(Call.seek(0x6261, 2), 3).due(Call.seek(0x7A7A7A, 3), 3)
                .due(Call.seek(0x7A617A61, 4), 3);
    }

    static void theHighestByteFirstIsAnotherName() {
        client().due(Call.seek(0x6162, 2), TrustedUpdates.NONE);
    }

    static void whatStandsAboveTheNameDoesNotMatter() {
        client().due(Call.seek(-1L << 8 | 'a', 1), 3).due(Call.seek(0x410061, 1), 3)
                .due(Call.seek(0x7FFFFFFF_7A617A61L, 4), 3).due(Call.seek(0xFFFFFFFF_7A617A61L, 4), 3);
    }

    static void nothingElseChanges() {
        client().draft(new Doc(1, 2)).due(Call.content(), 2).finds("a", 3, 1).tells(Call.seek("ab"), 3);
    }

    // "NONE when it is not found"
    static void aNameThatIsNotThereIsNotFound() {
        client().finds("b", TrustedUpdates.NONE, 1).finds("zzzz", TrustedUpdates.NONE, 1)
                .finds("zz", TrustedUpdates.NONE, 1).finds("abc", TrustedUpdates.NONE, 1);
    }

    static void theLettersOfALongerNameBeforeDoNotCount() {
        client().finds("azaz", 3, 1).finds("az", TrustedUpdates.NONE, 1).finds("zzz", 3, 1)
                .finds("z", TrustedUpdates.NONE, 1);
    }

    static void nothingIsFoundInEmptyTargets() {
        new Net().role(3, World.NO).missing("a", 1).missing("zzzz", 1);
    }

    // "IllegalArgumentException when that is no name": "A NAME is one to four small letters."
    static void noLettersAreNoName() {
        noName('a', 0);
        noName(0, 0);
    }

    static void fiveLettersAreNoName() {
        noName(EIGHT_LETTERS, 5);
    }

    static void fewerThanNoLettersAreNoName() {
        noName('a', -1);
        noName('a', Integer.MIN_VALUE);
    }

    static void farMoreLettersAreNoName() {
        noName(EIGHT_LETTERS, 8);
        noName(EIGHT_LETTERS, 9);
        noName(EIGHT_LETTERS, 257);
        noName(EIGHT_LETTERS, Integer.MAX_VALUE);
    }

    static void whatIsNoSmallLetterIsNoName() {
        for (long sign : new long[] {0, 'a' - 1, 'z' + 1, 'A', 'Z', '0', 'a' + 128, 255}) {
            noName(sign, 1);
            noName(sign << 8 | 'a', 2);
            noName(sign << 16 | 0x6161, 3);
            noName(sign << 24 | 0x616161, 4);
            noName(sign | 0x61616100, 4);
        }
    }

    static void theFirstAndTheLastSmallLetterAreAName() {
        client().due(Call.seek('a', 1), 3).due(Call.seek('z', 1), TrustedUpdates.NONE);
    }

    // "IllegalStateException when root, stamp or snapshot is not trusted"
    static void withoutARootItIsRefused() {
        new Run().refuses(IllegalStateException.class, Call.seek("a"));
    }

    static void withoutAStampItIsRefused() {
        Run.withRoot().refuses(IllegalStateException.class, Call.seek("a"));
    }

    static void withoutASnapshotItIsRefused() {
        Run.withRoot().takes(Doc.stamp(1, 500, 1, 5).signed(1)).refuses(IllegalStateException.class, Call.seek("a"));
    }

    static void afterBeginItIsRefused() {
        client().begins(World.ROOT.signed()).refuses(IllegalStateException.class, Call.seek("a"));
    }

    static void afterANewStampKeyItIsRefusedUntilStampAndSnapshotAreThere() {
        Doc snapshot = World.snapshot(1, 3, 1);
        Doc root = Doc.root(2, 500, Doc.keys(1, 0), Doc.keys(1, 9), Doc.keys(1, 2), Doc.keys(1, 3));
        client().takes(root.signed(0)).refuses(IllegalStateException.class, Call.seek("a"))
                .takes(Doc.stampFor(1, 500, snapshot).signed(9)).refuses(IllegalStateException.class, Call.seek("a"))
                .takes(snapshot).finds("a", 3, 1);
    }

    // "or has ended"
    static void atTheRootsEndItIsRefused() {
        livesUntil50(ending(50, 90, 90, 90));
    }

    static void atTheStampsEndItIsRefused() {
        livesUntil50(ending(90, 50, 90, 90));
    }

    static void atTheSnapshotsEndItIsRefused() {
        livesUntil50(ending(90, 90, 50, 90));
    }

    static void anEndedRootInPlaceOfALivingOneRefusesIt() {
        client().due(Call.tick(50), 50).takes(World.root(2, 50).signed(0))
                .refuses(IllegalStateException.class, Call.seek("a")).takes(World.root(3, 51).signed(0))
                .finds("a", 3, 1);
    }

    // "or the TARGETS are not fresh": "trusted, has not ended, and its version is that which the trusted snapshot says"
    static void withoutTargetsItIsRefused() {
        Run.withEveryRole().refuses(IllegalStateException.class, Call.seek("a"));
    }

    static void atTheTargetsEndItIsRefused() {
        livesUntil50(ending(90, 90, 90, 50));
    }

    static void targetsOneVersionBelowTheSnapshotRefuseIt() {
        Doc next = World.snapshot(2, 3, 2, 4, 1, 5, 1, 6, 1);
        client().takes(World.stampOf(2, next)).takes(next).trusts(1, 3)
                .refuses(IllegalStateException.class, Call.seek("a"))
                .takes(World.targets(2, Net.names("a"), World.NO)).finds("a", 3, 1);
    }

    static void targetsOneVersionAboveTheSnapshotRefuseIt() {
        Doc older = Doc.snapshot(1, 500, 3, 1).signed(9);
        Doc root = Doc.root(2, 500, Doc.keys(1, 0), Doc.keys(1, 1), Doc.keys(1, 9), Doc.keys(1, 3));
        Run.withSnapshot(World.snapshot(1, 3, 2)).takes(World.targets(2, Net.names("a"), World.NO)).finds("a", 3, 1)
                .takes(root.signed(0)).takes(World.stampOf(1, older)).takes(older).trusts(2, 3)
                .refuses(IllegalStateException.class, Call.seek("a"));
    }

    static void aNewerStampAloneDoesNotHinder() {
        client().takes(Doc.stamp(2, 500, 9, 5).signed(1)).finds("a", 3, 1);
    }

    static void aNewSnapshotWithTheSameVersionDoesNotHinder() {
        Doc next = World.snapshot(2, 3, 1, 4, 9, 5, 9, 6, 9);
        client().takes(World.stampOf(2, next)).takes(next).finds("a", 3, 1);
    }

    static void otherTargetsKeysInANewRootDoNotHinder() {
        Doc root = Doc.root(2, 500, Doc.keys(1, 0), Doc.keys(1, 1), Doc.keys(1, 2), Doc.keys(1, 9));
        client().takes(root.signed(0)).finds("a", 3, 1);
    }

    // "where several exceptions that a call names fit, it is the one that it names first"
    static void noNameComesBeforeWhatIsNotThere() {
        new Run().refuses(IllegalArgumentException.class, Call.seek('A', 1))
                .refuses(IllegalArgumentException.class, Call.seek('a', 0));
        Run.withEveryRole().refuses(IllegalArgumentException.class, Call.seek('A', 1));
    }

    static void noNameComesBeforeWhatHasEnded() {
        client().due(Call.tick(10000), 10000).refuses(IllegalArgumentException.class, Call.seek('a', 5));
    }

    private Promise15SeekTest() {
    }
}
