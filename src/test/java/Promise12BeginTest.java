/** Promise 12: begin. */
public final class Promise12BeginTest {
    public static void main(String[] args) {
        Cases.run(Promise12BeginTest.class);
    }

    private static Run trusting() {
        return Run.withEveryRole().takes(World.targets(1, new int[][] {Doc.targetOf("a")}, World.NO))
                .takes(World.empty(4, 1, 500).signed());
    }

    // "The draft is trusted as the root, whoever signed it"
    static void aRootThatNobodySignedIsTrusted() {
        new Run().begins(World.root(7, 300).signed()).due(Call.trusted(0, false), 7).due(Call.trusted(0, true), 300);
    }

    static void aRootWithWrongSignaturesIsTrusted() {
        new Run().begins(World.root(7, 300).with(1, 0, 1, 2, 3, 4)).due(Call.trusted(0, false), 7);
    }

    static void aRootThatOthersSignedIsTrusted() {
        new Run().begins(World.root(7, 300).signed(4, 5, 6, 7, 8, 9)).due(Call.trusted(0, false), 7);
    }

    static void aRootThatHasEndedIsTrusted() {
        new Run().due(Call.tick(300), 300).begins(World.root(1, 300).signed()).due(Call.trusted(0, true), 300);
    }

    static void anOlderOrTheSameRootIsTrusted() {
        new Run().begins(World.root(7, 300).signed()).begins(World.root(7, 200).signed())
                .due(Call.trusted(0, true), 200)
                .begins(World.root(1, 100).signed()).due(Call.trusted(0, false), 1);
    }

    static void theFirstAndTheLastVersionAreTrusted() {
        new Run().begins(World.root(1, 300).signed()).due(Call.trusted(0, false), 1)
                .begins(World.root(255, 300).signed()).due(Call.trusted(0, false), 255);
    }

    static void itsKeysCountFromThen() {
        int[] nine = Doc.keys(1, 9);
        Run.withRoot().begins(Doc.root(1, 500, nine, nine, nine, nine).signed())
                .refuses(IllegalStateException.class, Doc.stamp(1, 500, 1, 0).signed(1))
                .takes(Doc.stamp(1, 500, 1, 0).signed(9));
    }

    // "and nothing else is any more"
    static void nothingElseIsTrustedAnyMore() {
        trusting().begins(World.ROOT.signed()).trusts(1, 0).trustsNone(1, 2, 3, 4, 5, 6)
                .refuses(IllegalStateException.class, Call.seek("a"));
    }

    static void whatWasTrustedBeforeBindsNoMore() {
        Run.withRoot().takes(Doc.stamp(9, 500, 9, 0).signed(1)).begins(World.ROOT.signed())
                .takes(Doc.stamp(1, 500, 1, 0).signed(1));
    }

    static void theRestStays() {
        trusting().keeps().due(Call.install("a"), 3).due(Call.tick(17), 17).keeps(5).begins(World.ROOT.signed(0))
                .due(Call.tick(0), 17).due(Call.visits(), 1).due(Call.installed(), 1)
                .hasDraft(World.ROOT.signed(0).bytes)
                .does(Call.cut(0), Call.digest()).hasDraft(Doc.word(Doc.mix(new int[] {5}, 1, 0)));
    }

    // "IllegalArgumentException when it is MALFORMED"
    static void nothingIsRefused() {
        trusting().does(Call.cut(0)).refuses(IllegalArgumentException.class, Call.begin());
    }

    static void aRootWithoutTheNumberOfSignaturesIsRefused() {
        trusting().draft(World.ROOT).refuses(IllegalArgumentException.class, Call.begin());
    }

    static void aRootThatIsCutIsRefused() {
        Doc signed = World.ROOT.signed(0);
        for (int size = 0; size < signed.bytes.length; size++) {
            trusting().draft(signed.cut(size)).refuses(IllegalArgumentException.class, Call.begin());
        }
    }

    static void aByteBehindTheRootIsRefused() {
        trusting().draft(World.ROOT.signed(0).with(0)).refuses(IllegalArgumentException.class, Call.begin());
    }

    // "or no ROOT"
    static void everyOtherRoleIsRefused() {
        Doc[] others = {Doc.stamp(1, 9, 1, 1), Doc.snapshot(1, 9, 3, 1), World.empty(3, 1, 9), World.empty(4, 1, 9),
            World.empty(5, 1, 9), World.empty(6, 1, 9)};
        for (Doc other : others) {
            trusting().draft(other.signed(0)).refuses(IllegalArgumentException.class, Call.begin());
        }
    }

    private Promise12BeginTest() {
    }
}
