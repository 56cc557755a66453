/** Promise 15: how a name is sought through DELEGATES, and promise 16: how many roles that visits. */
public final class Promise15SeekDelegatesTest {
    private static final int END = World.END;
    private static final int[][] NO = World.NO;

    public static void main(String[] args) {
        Cases.run(Promise15SeekDelegatesTest.class);
    }

    private static int[] to(int role, String prefix) {
        return Net.to(role, prefix);
    }

    private static int[] finallyTo(int role, String prefix) {
        return Net.finallyTo(role, prefix);
    }

    private static int[][] names(String... names) {
        return Net.names(names);
    }

    /** TARGETS that delegate all to role 4, which asks for the threshold of these keys. */
    private static Run asking(int threshold, int... keys) {
        int[] delegation = Doc.delegation(4, 0, Doc.keys(threshold, keys), "");
        return new Net().role(3, NO, delegation).run;
    }

    private static Doc signedBy(int... signers) {
        return Doc.targets(4, 1, END, names("a"), NO).signed(signers);
    }

    // "if its document has a target of the name, that is found; else for each of its delegations"
    static void itsOwnTargetComesBeforeItsDelegations() {
        new Net().role(3, names("a"), to(4, "")).role(4, names("a", "b")).finds("a", 3, 1).finds("b", 4, 2);
    }

    static void theLastOfFourTargetsIsFound() {
        new Net().role(3, names("b", "c", "d", "a"), to(4, "")).role(4, names("a")).finds("a", 3, 1);
    }

    static void aTargetThatTheNameBeginsIsNotTheName() {
        new Net().role(3, names("ab"), to(4, "")).role(4, names("a")).finds("a", 4, 2);
    }

    static void aTargetThatBeginsTheNameIsNotTheName() {
        new Net().role(3, names("a"), to(4, "")).role(4, names("ab")).finds("ab", 4, 2);
    }

    // "in order"
    static void theFirstDelegationThatFindsItCounts() {
        new Net().role(3, NO, to(6, ""), to(4, ""), to(5, "")).role(4, names("a")).role(5, names("a"))
                .role(6, names("b"))
                .finds("a", 4, 3).finds("b", 6, 2).missing("c", 4);
    }

    static void theDepthComesBeforeTheNextDelegation() {
        new Net().role(3, NO, to(4, ""), to(5, "")).role(4, NO, to(6, "")).role(5, names("a")).role(6, names("a"))
                .finds("a", 6, 3);
    }

    static void theNextDelegationFollowsWhenTheDepthFindsNothing() {
        new Net().role(3, NO, to(4, ""), to(5, "")).role(4, NO, to(6, "")).role(5, names("a")).role(6, NO)
                .finds("a", 5, 4);
    }

    static void theDeepestChainGoesThroughEveryRole() {
        new Net().role(3, NO, to(6, "")).role(6, NO, to(5, "")).role(5, NO, to(4, "")).role(4, names("a"))
                .finds("a", 4, 4).missing("b", 4);
    }

    // "whose prefix the name begins with"
    static void anEmptyPrefixFitsEveryName() {
        new Net().role(3, NO, to(4, "")).role(4, names("a", "zzzz")).finds("a", 4, 2).finds("zzzz", 4, 2);
    }

    static void aPrefixThatIsTheNameFits() {
        new Net().role(3, NO, to(4, "abc")).role(4, names("abc")).finds("abc", 4, 2);
    }

    static void aPrefixOneLetterShorterThanTheNameFits() {
        new Net().role(3, NO, to(4, "abc")).role(4, names("abcd")).finds("abcd", 4, 2);
    }

    static void aPrefixOneLetterLongerThanTheNameDoesNotFit() {
        new Net().role(3, NO, to(4, "abc")).role(4, names("ab")).missing("ab", 1);
    }

    static void aPrefixThatOnlyTheNameBeforeBeganWithDoesNotFit() {
        new Net().role(3, NO, to(4, "ab")).role(4, names("abcd", "a")).finds("abcd", 4, 2).missing("a", 1)
                .finds("abcd", 4, 2);
        new Net().role(3, NO, to(4, "abc")).role(4, names("abc", "ab")).finds("abc", 4, 2).missing("ab", 1);
    }

    static void aPrefixThatDiffersInItsLastLetterDoesNotFit() {
        new Net().role(3, NO, to(4, "abc")).role(4, names("abd", "abdc")).missing("abd", 1).missing("abdc", 1);
    }

    static void aPrefixThatDiffersInItsFirstLetterDoesNotFit() {
        new Net().role(3, NO, to(4, "b")).role(4, names("ab")).missing("ab", 1);
    }

    static void everyPrefixOnTheWayMustFit() {
        new Net().role(3, NO, to(4, "a")).role(4, NO, to(5, "b"), to(6, "ab")).role(5, names("ba", "ab"))
                .role(6, names("ab")).missing("ba", 1).finds("ab", 6, 3);
    }

    static void aPrefixDoesNotBindTheTargetsOfTheDelegating() {
        new Net().role(3, names("b"), to(4, "a")).role(4, names("b")).finds("b", 3, 1);
    }

    static void aDelegationWhosePrefixDoesNotFitIsPassedOver() {
        new Net().role(3, NO, to(4, "b"), to(5, "a")).role(4, names("a")).role(5, names("a")).finds("a", 5, 2);
    }

    // "whose role was not visited yet"
    static void aRoleThatDelegatesToItselfIsVisitedOnce() {
        new Net().role(3, NO, to(4, "")).role(4, NO, to(4, "")).missing("a", 2);
    }

    static void twoRolesThatDelegateToEachOtherAreVisitedOnce() {
        new Net().role(3, NO, to(4, "")).role(4, NO, to(5, "")).role(5, NO, to(4, "")).missing("a", 3);
    }

    static void allThatDelegateToAllAreVisitedOnce() {
        int[] any = Doc.keys(1, 4, 5, 6);
        int[][] all = {Doc.delegation(4, 0, any, ""), Doc.delegation(5, 0, any, ""), Doc.delegation(6, 0, any, "")};
        new Net().role(3, NO, all).role(4, NO, all).role(5, NO, all).role(6, names("b"), all).missing("a", 4)
                .finds("b", 6, 4);
    }

    static void aRoleThatWasVisitedInTheDepthIsNotVisitedAgain() {
        new Net().role(3, NO, to(4, ""), to(5, ""), to(6, "")).role(4, NO, to(5, "")).role(5, NO).role(6, names("a"))
                .finds("a", 6, 4);
    }

    static void aRoleThatWasPassedOverCanBeVisitedLater() {
        new Net().role(3, NO, to(4, "b"), to(5, "")).role(4, names("a")).role(5, NO, to(4, "")).finds("a", 4, 3);
    }

    static void theVisitsOfTheSeekBeforeDoNotHinder() {
        new Net().role(3, NO, to(4, "")).role(4, names("a")).finds("a", 4, 2).finds("a", 4, 2).missing("b", 2);
    }

    // "and is fresh": "trusted, has not ended, and its version is that which the trusted snapshot says"
    static void aDelegateThatIsNotTrustedIsPassedOver() {
        new Net().role(3, NO, to(4, ""), to(5, "")).role(5, names("a")).finds("a", 5, 2);
    }

    static void aDelegateIsPassedOverFromItsEndOn() {
        Run run = new Net().role(3, NO, to(4, ""), to(5, "")).role(5, names("a")).run;
        run.takes(Doc.targets(4, 1, 50, names("a"), NO).signed(4)).due(Call.tick(49), 49).finds("a", 4, 2)
                .due(Call.tick(1), 50).finds("a", 5, 2).due(Call.tick(1), 51).finds("a", 5, 2);
    }

    static void aDelegateOneVersionBelowTheSnapshotIsPassedOver() {
        Doc next = World.snapshot(2, 3, 1, 4, 2, 5, 1, 6, 1);
        Run run = new Net().role(3, NO, to(4, ""), to(5, "")).role(4, names("a")).role(5, names("a")).run;
        run.finds("a", 4, 2).takes(World.stampOf(2, next)).takes(next).trusts(1, 4).finds("a", 5, 2)
                .takes(Doc.targets(4, 2, END, names("a"), NO).signed(4)).finds("a", 4, 2);
    }

    static void aDelegateOneVersionAboveTheSnapshotIsPassedOver() {
        Doc older = Doc.snapshot(1, 500, 3, 1, 4, 1).signed(9);
        Doc root = Doc.root(2, 500, Doc.keys(1, 0), Doc.keys(1, 1), Doc.keys(1, 9), Doc.keys(1, 3));
        Run.withSnapshot(World.snapshot(1, 3, 1, 4, 2)).takes(Net.document(3, NO, to(4, "")))
                .takes(Doc.targets(4, 2, END, names("a"), NO).signed(4)).finds("a", 4, 2)
                .takes(root.signed(0)).takes(World.stampOf(1, older)).takes(older).trusts(2, 4)
                .finds("a", TrustedUpdates.NONE, 1);
    }

    static void aDelegateThatTheSnapshotDoesNotHaveIsPassedOver() {
        Doc less = Doc.snapshot(1, 500, 3, 1).signed(9);
        Doc root = Doc.root(2, 500, Doc.keys(1, 0), Doc.keys(1, 1), Doc.keys(1, 9), Doc.keys(1, 3));
        new Net().role(3, NO, to(4, "")).role(4, names("a")).finds("a", 4, 2).run
                .takes(root.signed(0)).takes(World.stampOf(1, less)).takes(less).trusts(1, 4)
                .finds("a", TrustedUpdates.NONE, 1);
    }

    // "and signed by the threshold of the delegation's keys"
    static void aDelegateThatIsNotSignedIsPassedOver() {
        asking(1, 4).takes(signedBy()).finds("a", TrustedUpdates.NONE, 1);
    }

    static void aDelegateSignedByOthersIsPassedOver() {
        asking(1, 4).takes(signedBy(3, 5, 6)).finds("a", TrustedUpdates.NONE, 1);
    }

    static void oneLessThanTheThresholdIsPassedOver() {
        asking(2, 4, 5, 7).takes(signedBy(4)).finds("a", TrustedUpdates.NONE, 1);
        asking(4, 4, 5, 7, 9).takes(signedBy(4, 5, 7)).finds("a", TrustedUpdates.NONE, 1);
    }

    static void oneKeyTwiceIsPassedOver() {
        asking(2, 4, 5, 7).takes(signedBy(4, 4)).finds("a", TrustedUpdates.NONE, 1);
    }

    static void justTheThresholdIsVisited() {
        asking(2, 4, 5, 7).takes(signedBy(7, 4)).finds("a", 4, 2);
        asking(4, 4, 5, 7, 9).takes(signedBy(4, 5, 7, 9)).finds("a", 4, 2);
    }

    static void moreThanTheThresholdIsVisited() {
        asking(1, 4, 5, 7).takes(signedBy(4, 5, 7)).finds("a", 4, 2);
    }

    static void eachDelegationAsksForItsOwnKeys() {
        int[] other = Doc.delegation(4, 0, Doc.keys(1, 9), "");
        new Net().role(3, NO, to(4, ""), to(5, "")).role(5, NO, other).run.takes(signedBy(9)).finds("a", 4, 3)
                .takes(signedBy(4)).finds("a", 4, 2);
    }

    // "if not, and the delegation is final, all is over, and it is not found"
    static void aFinalDelegationThatFindsItFindsIt() {
        new Net().role(3, NO, finallyTo(4, ""), to(5, "")).role(4, names("a")).role(5, names("a")).finds("a", 4, 2);
    }

    static void aFinalDelegationThatDoesNotFindItEndsAll() {
        new Net().role(3, NO, finallyTo(4, ""), to(5, "")).role(4, NO).role(5, names("a")).missing("a", 2);
    }

    static void aDelegationThatIsNotFinalEndsNothing() {
        new Net().role(3, NO, to(4, ""), to(5, "")).role(4, NO).role(5, names("a")).finds("a", 5, 3);
    }

    static void whatComesBeforeAFinalDelegationCounts() {
        new Net().role(3, NO, to(5, ""), finallyTo(4, "")).role(4, NO).role(5, names("a")).finds("a", 5, 2);
    }

    static void aFinalDelegationInTheDepthEndsAll() {
        new Net().role(3, NO, to(4, ""), to(6, "")).role(4, NO, finallyTo(5, "")).role(5, NO).role(6, names("a"))
                .missing("a", 3);
    }

    static void aFinalDelegationAboveLetsTheDepthBeSought() {
        new Net().role(3, NO, finallyTo(4, ""), to(6, "")).role(4, NO, to(5, "")).role(5, names("a"))
                .role(6, names("b"))
                .finds("a", 5, 3).missing("b", 3);
    }

    static void aFinalDelegationThatDoesNotFitEndsNothing() {
        new Net().role(3, NO, finallyTo(4, "b"), to(5, "")).role(4, NO).role(5, names("a")).finds("a", 5, 2);
    }

    static void aFinalDelegationToWhatIsNotTrustedEndsNothing() {
        new Net().role(3, NO, finallyTo(4, ""), to(5, "")).role(5, names("a")).finds("a", 5, 2);
    }

    static void aFinalDelegationToWhatHasEndedEndsNothing() {
        new Net().role(3, NO, finallyTo(4, ""), to(5, "")).role(5, names("a")).run
                .takes(Doc.targets(4, 1, 50, NO, NO).signed(4)).finds("a", TrustedUpdates.NONE, 2)
                .due(Call.tick(50), 50).finds("a", 5, 2);
    }

    static void aFinalDelegationToWhatIsNotSignedEndsNothing() {
        new Net().role(3, NO, finallyTo(4, ""), to(5, "")).role(5, names("a")).run
                .takes(Doc.targets(4, 1, END, NO, NO).signed(5)).finds("a", 5, 2);
    }

    static void aFinalDelegationToWhatWasVisitedEndsNothing() {
        new Net().role(3, NO, to(4, ""), to(6, "")).role(4, NO, finallyTo(4, "")).role(6, names("a")).finds("a", 6, 3);
    }

    private Promise15SeekDelegatesTest() {
    }
}
