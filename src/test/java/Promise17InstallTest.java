import java.util.NoSuchElementException;

/** Promise 17: install. */
public final class Promise17InstallTest {
    private static final int[] CONTENT = {1, 2, 3};
    private static final int DIGEST = Doc.mix(CONTENT, 3, 0);

    public static void main(String[] args) {
        Cases.run(Promise17InstallTest.class);
    }

    /** TARGETS with a target a of that length and digest, and role 4 with that of the content for ab. */
    private static Run saying(int length, int digest) {
        int[][] targets = {Doc.target("a", length, digest)};
        int[][] delegated = {Doc.targetOf("ab", CONTENT), Doc.targetOf("a", 9)};
        return new Net().role(3, targets, Net.to(4, "a")).role(4, delegated).run;
    }

    private static Run client() {
        return saying(3, DIGEST).keeps(CONTENT);
    }

    private static void isAnotherOne(int length, int digest, int... content) {
        saying(length, digest).keeps(content).refuses(UnsupportedOperationException.class, Call.install("a"))
                .due(Call.installed(), 0);
    }

    // "Installs the content as the target with a name: the role that vouches for it."
    static void theTargetsVouchForIt() {
        client().due(Call.install("a"), 3).due(Call.installed(), 1).due(Call.visits(), 1);
    }

    static void aDelegateVouchesForIt() {
        client().due(Call.install("ab"), 4).due(Call.installed(), 1).due(Call.visits(), 2);
    }

    static void whatStandsAboveTheNameDoesNotMatter() {
        client().due(Call.install(-1L << 8 | 'a', 1), 3).due(Call.install(0x41006261L, 2), 4);
    }

    static void aNameOfFourLettersIsInstalled() {
        new Net().role(3, Net.names("zzzz")).run.due(Call.install("zzzz"), 3);
    }

    static void anEmptyContentIsInstalled() {
        saying(0, 0).keeps().due(Call.install("a"), 3);
    }

    static void theContentBeforeAnyIsEmpty() {
        saying(0, 0).due(Call.install("a"), 3);
    }

    static void aFullContentIsInstalled() {
        int[] full = new int[120];
        full[119] = 1;
        saying(120, Doc.mix(full, 120, 0)).keeps(full).due(Call.install("a"), 3);
    }

    static void theDraftDoesNotMatter() {
        client().draft(new Doc(9, 9)).due(Call.install("a"), 3).hasDraft(9, 9);
    }

    static void theContentStaysAndCanBeInstalledAgain() {
        client().due(Call.install("a"), 3).due(Call.install("ab"), 4).due(Call.install("a"), 3)
                .due(Call.installed(), 3);
    }

    // "IllegalArgumentException .. as for seek"
    static void noLettersAreNoName() {
        client().refuses(IllegalArgumentException.class, Call.install('a', 0))
                .refuses(IllegalArgumentException.class, Call.install('a', -1));
    }

    static void fiveLettersAreNoName() {
        client().refuses(IllegalArgumentException.class, Call.install(0x6161616161L, 5));
    }

    static void whatIsNoSmallLetterIsNoName() {
        for (long sign : new long[] {0, 'a' - 1, 'z' + 1, 'A', 'Z', 255}) {
            client().refuses(IllegalArgumentException.class, Call.install(sign, 1))
                    .refuses(IllegalArgumentException.class, Call.install(sign << 24 | 0x616161, 4));
        }
    }

    // "and IllegalStateException as for seek"
    static void withoutARootItIsRefused() {
        new Run().refuses(IllegalStateException.class, Call.install("a"));
    }

    static void withoutAStampItIsRefused() {
        Run.withRoot().refuses(IllegalStateException.class, Call.install("a"));
    }

    static void withoutASnapshotItIsRefused() {
        Run.withRoot().takes(Doc.stamp(1, 500, 1, 5).signed(1)).refuses(IllegalStateException.class, Call.install("a"));
    }

    static void withoutTargetsItIsRefused() {
        Run.withEveryRole().refuses(IllegalStateException.class, Call.install("a"));
    }

    static void atTheEndOfWhatVouchesItIsRefused() {
        int[][] ends = {{50, 90, 90, 90}, {90, 50, 90, 90}, {90, 90, 50, 90}, {90, 90, 90, 50}};
        for (int[] end : ends) {
            Doc snapshot = Doc.snapshot(1, end[2], 3, 1).signed(2);
            new Run().begins(World.root(1, end[0]).signed()).takes(Doc.stampFor(1, end[1], snapshot).signed(1))
                    .takes(snapshot).takes(Doc.targets(3, 1, end[3], Net.names("a"), World.NO).signed(3))
                    .due(Call.tick(49), 49).due(Call.install("a"), 3).due(Call.tick(1), 50)
                    .refuses(IllegalStateException.class, Call.install("a")).due(Call.installed(), 1);
        }
    }

    static void targetsThatAreNotFreshRefuseIt() {
        Doc next = World.snapshot(2, 3, 2, 4, 1, 5, 1, 6, 1);
        client().takes(World.stampOf(2, next)).takes(next).refuses(IllegalStateException.class, Call.install("a"));
    }

    // "NoSuchElementException when it is not found"
    static void aNameThatIsNotThereIsRefused() {
        client().refuses(NoSuchElementException.class, Call.install("b"))
                .refuses(NoSuchElementException.class, Call.install("abc"));
    }

    static void aNameOfADelegateThatHasEndedIsRefused() {
        Doc ending = Doc.targets(4, 1, 50, Net.names("ab"), World.NO).signed(4);
        new Net().role(3, World.NO, Net.to(4, "")).run.takes(ending).due(Call.tick(49), 49).due(Call.install("ab"), 4)
                .due(Call.tick(1), 50).refuses(NoSuchElementException.class, Call.install("ab"));
    }

    static void aNameBehindAFinalDelegationIsRefused() {
        new Net().role(3, World.NO, Net.finallyTo(4, ""), Net.to(5, "")).role(4, World.NO).role(5, Net.names("a")).run
                .refuses(NoSuchElementException.class, Call.install("a"));
    }

    // "UnsupportedOperationException when length or digest of the content are other ones"
    static void aLengthOneLessIsRefused() {
        isAnotherOne(2, DIGEST, CONTENT);
    }

    static void aLengthOneMoreIsRefused() {
        isAnotherOne(4, DIGEST, CONTENT);
    }

    static void theSmallestAndTheLargestLengthAreRefused() {
        isAnotherOne(0, DIGEST, CONTENT);
        isAnotherOne(255, DIGEST, CONTENT);
    }

    static void aLengthThatOnlyTheContentBeforeHadIsRefused() {
        client().keeps(1, 2).refuses(UnsupportedOperationException.class, Call.install("a")).keeps(CONTENT)
                .due(Call.install("a"), 3);
    }

    static void aDigestThatDiffersInOneBitIsRefused() {
        for (int bit = 0; bit < 32; bit++) {
            isAnotherOne(3, DIGEST ^ 1 << bit, CONTENT);
        }
    }

    static void aDigestWithItsLowestByteFirstIsRefused() {
        isAnotherOne(3, Integer.reverseBytes(DIGEST), CONTENT);
    }

    static void anotherContentOfTheLengthIsRefused() {
        isAnotherOne(3, DIGEST, 1, 2, 4);
        isAnotherOne(3, DIGEST, 3, 2, 1);
    }

    static void theEmptyContentIsRefusedForOneByte() {
        isAnotherOne(1, 0);
        isAnotherOne(0, 1);
    }

    static void oneByteOfZeroIsRefusedForNone() {
        isAnotherOne(0, 0, 0);
    }

    static void emptyContentOfDigestZeroIsNotAByteOfZero() {
        isAnotherOne(1, 0, 0, 0);
    }

    static void theDraftInPlaceOfTheContentIsRefused() {
        saying(3, DIGEST).keeps(9).draft(new Doc(CONTENT))
                .refuses(UnsupportedOperationException.class, Call.install("a"));
    }

    static void onlyTheTargetThatIsFoundFirstCounts() {
        client().keeps(9).refuses(UnsupportedOperationException.class, Call.install("a"));
    }

    // "where several exceptions that a call names fit, it is the one that it names first"
    static void noNameComesBeforeWhatIsNotThere() {
        new Run().refuses(IllegalArgumentException.class, Call.install('A', 1));
        client().due(Call.tick(10000), 10000).refuses(IllegalArgumentException.class, Call.install('a', 5));
    }

    static void noNameComesBeforeOtherContent() {
        client().keeps(9).refuses(IllegalArgumentException.class, Call.install('A', 1));
    }

    static void whatIsNotThereComesBeforeNotFound() {
        Run.withEveryRole().refuses(IllegalStateException.class, Call.install("zzz"));
        client().due(Call.tick(10000), 10000).refuses(IllegalStateException.class, Call.install("zzz"));
    }

    static void whatHasEndedComesBeforeOtherContent() {
        client().keeps(9).due(Call.tick(10000), 10000).refuses(IllegalStateException.class, Call.install("a"));
    }

    private Promise17InstallTest() {
    }
}
