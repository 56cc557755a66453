/** The terms: what a document's parts are, and when the draft is MALFORMED, for begin(), offer() and sign() alike. */
public final class TermsDocumentTest {
    private static final int[] SET = Doc.keys(1, 0);
    private static final int[][] NO = World.NO;
    private static final Doc STAMP = Doc.stamp(1, 9, 1, 5);

    public static void main(String[] args) {
        Cases.run(TermsDocumentTest.class);
    }

    /** Whatever follows this signed part, none of the three calls takes it. */
    private static void malformed(Doc part) {
        refusedByAll(part);
        refusedByAll(part.signed());
        refusedByAll(part.signed(0));
    }

    private static void refusedByAll(Doc draft) {
        Run.withEveryRole().draft(draft).refuses(IllegalArgumentException.class, Call.offer())
                .refuses(IllegalArgumentException.class, Call.begin())
                .refuses(IllegalArgumentException.class, Call.sign(0));
    }

    /** The signed part of a document: it can be signed and begun with, or an offer of it fails for want of a root. */
    private static void sound(Doc part) {
        new Run().draft(part).due(Call.sign(3), 1).hasDraft(part.signed(3).bytes);
        soundWhole(part.signed());
        soundWhole(part.signed(3));
    }

    private static void soundWhole(Doc document) {
        Run run = new Run().draft(document).refuses(IndexOutOfBoundsException.class, Call.offer());
        if (document.role() == Doc.ROOT) {
            run.due(Call.begin(), 0).due(Call.trusted(0, false), document.bytes[1])
                    .due(Call.trusted(0, true), document.bytes[2] << 8 | document.bytes[3]);
        }
    }

    private static Doc[] oneOfEach(int version, int end) {
        return new Doc[] {World.root(version, end), Doc.stamp(version, end, 1, 5), Doc.snapshot(version, end, 3, 1),
            World.empty(3, version, end), World.empty(4, version, end), World.empty(5, version, end),
            World.empty(6, version, end)};
    }

    /** A root with that key set in each of its four places, and documents that delegate with it. */
    private static Doc[] withKeySet(int... set) {
        int[][] delegation = {Doc.delegation(4, 0, set, "a")};
        return new Doc[] {Doc.root(1, 9, set, SET, SET, SET), Doc.root(1, 9, SET, set, SET, SET),
            Doc.root(1, 9, SET, SET, set, SET), Doc.root(1, 9, SET, SET, SET, set),
            Doc.targets(3, 1, 9, NO, delegation), Doc.targets(6, 1, 9, NO, delegation)};
    }

    private static void malformedSet(int... set) {
        for (Doc part : withKeySet(set)) {
            malformed(part);
        }
    }

    private static void soundSet(int... set) {
        for (Doc part : withKeySet(set)) {
            sound(part);
        }
    }

    private static void malformedTargets(int[]... targets) {
        for (int role = 3; role <= 6; role++) {
            malformed(Doc.targets(role, 1, 9, targets, NO));
        }
    }

    private static void soundTargets(int[]... targets) {
        for (int role = 3; role <= 6; role++) {
            sound(Doc.targets(role, 1, 9, targets, NO));
        }
    }

    private static void malformedDelegations(int[]... delegations) {
        for (int role = 3; role <= 6; role++) {
            malformed(Doc.targets(role, 1, 9, NO, delegations));
        }
    }

    private static void soundDelegations(int[]... delegations) {
        for (int role = 3; role <= 6; role++) {
            sound(Doc.targets(role, 1, 9, NO, delegations));
        }
    }

    // "the role"
    static void everyRoleOf0To6IsSound() {
        for (Doc part : oneOfEach(1, 9)) {
            sound(part);
        }
    }

    static void role7IsMalformed() {
        malformed(World.empty(7, 1, 9));
        malformed(World.ROOT.altered(0, 7));
        malformed(STAMP.altered(0, 7));
    }

    static void roleFarAbove6IsMalformed() {
        for (int role : new int[] {8, 128, 255}) {
            malformed(World.empty(role, 1, 9));
            malformed(World.ROOT.altered(0, role));
        }
    }

    // "the VERSION, not 0"
    static void version0IsMalformed() {
        for (Doc part : oneOfEach(0, 9)) {
            malformed(part);
        }
    }

    static void versions1And255AreSound() {
        for (int version : new int[] {1, 255}) {
            for (Doc part : oneOfEach(version, 9)) {
                sound(part);
            }
        }
    }

    // "the END, two bytes", "with the highest first"
    static void everyEndIsSound() {
        for (int end : new int[] {0, 1, 255, 256, 65535}) {
            for (Doc part : oneOfEach(1, end)) {
                sound(part);
            }
        }
    }

    static void theHighestByteOfTheEndIsTheFirst() {
        new Run().begins(World.ROOT.altered(2, 1).altered(3, 2).signed()).due(Call.trusted(0, true), 258);
    }

    // "the number of signatures, at most 6"
    static void noSignaturesAreSound() {
        soundWhole(STAMP.signed());
        soundWhole(World.ROOT.signed());
    }

    static void sixSignaturesAreSound() {
        soundWhole(STAMP.signed(0, 1, 2, 3, 4, 5));
        soundWhole(World.ROOT.signed(4, 5, 6, 7, 8, 9));
    }

    static void sevenSignaturesAreMalformed() {
        refusedByAll(STAMP.signed(0, 1, 2, 3, 4, 5, 6));
        refusedByAll(World.ROOT.signed(0, 1, 2, 3, 4, 5, 6));
    }

    static void aNumberAboveTheSignaturesIsMalformed() {
        refusedByAll(STAMP.signed(0, 1).altered(STAMP.bytes.length, 3));
        refusedByAll(STAMP.with(1));
        refusedByAll(STAMP.with(255));
    }

    static void aNumberBelowTheSignaturesIsMalformed() {
        refusedByAll(STAMP.signed(0, 1).altered(STAMP.bytes.length, 1));
        refusedByAll(STAMP.signed(0).altered(STAMP.bytes.length, 0));
    }

    // "of each the key and the signature, four bytes", "KEYS are 0 .. 9"
    static void signaturesOfKeys0And9AreSound() {
        soundWhole(STAMP.signed(0, 9));
    }

    static void aSignatureOfKey10IsMalformed() {
        refusedByAll(STAMP.signed(10));
        refusedByAll(STAMP.signed(0, 10));
        refusedByAll(STAMP.with(1, 255, 0, 0, 0, 0));
    }

    static void aWrongSignatureIsSound() {
        soundWhole(STAMP.with(1, 0, 0, 0, 0, 0));
        soundWhole(STAMP.with(2, 0, 255, 255, 255, 255, 0, 1, 2, 3, 4));
    }

    static void aSignatureOfThreeBytesIsMalformed() {
        refusedByAll(STAMP.signed(0).cut(STAMP.bytes.length + 5));
    }

    static void aSignatureOfFiveBytesIsMalformed() {
        refusedByAll(STAMP.signed(0).with(0));
    }

    // "for ROOT, STAMP, SNAPSHOT, TARGETS in this order a KEY SET"
    static void aRootOfThreeKeySetsIsMalformed() {
        malformed(Doc.head(0, 1, 9).with(SET).with(SET).with(SET));
    }

    static void aRootOfFiveKeySetsIsMalformed() {
        malformed(World.ROOT.with(SET));
    }

    static void aRootWithoutKeySetsIsMalformed() {
        malformed(Doc.head(0, 1, 9));
    }

    static void theKeySetsStandInTheirOrder() {
        Doc snapshot = Doc.snapshot(1, 500, 3, 1);
        Doc stamp = Doc.stampFor(1, 500, snapshot.signed(2));
        new Run().begins(World.root(1, 500).signed()).refuses(IllegalStateException.class, stamp.signed(0, 2, 3))
                .takes(stamp.signed(1)).refuses(IllegalStateException.class, snapshot.signed(0, 1, 3))
                .takes(snapshot.signed(2)).refuses(IllegalStateException.class, World.empty(3, 1, 500).signed(0, 1, 2))
                .takes(World.empty(3, 1, 500).signed(3))
                .refuses(IllegalStateException.class, World.root(2, 500).signed(1, 2, 3))
                .takes(World.root(2, 500).signed(0));
    }

    // "a THRESHOLD, not 0"
    static void threshold0IsMalformed() {
        malformedSet(0, 1, 5);
        malformedSet(0, 4, 1, 2, 3, 4);
    }

    // "the number of keys, 1 .. 4"
    static void noKeysAreMalformed() {
        malformedSet(1, 0);
        malformedSet(0, 0);
    }

    static void oneKeyIsSound() {
        soundSet(1, 1, 5);
    }

    static void fourKeysAreSound() {
        soundSet(1, 4, 2, 3, 5, 9);
    }

    static void fiveKeysAreMalformed() {
        malformedSet(1, 5, 1, 2, 3, 4, 5);
        malformedSet(5, 5, 1, 2, 3, 4, 5);
    }

    // "not less than the threshold"
    static void asManyKeysAsTheThresholdAreSound() {
        soundSet(2, 2, 1, 2);
        soundSet(3, 3, 1, 2, 3);
        soundSet(4, 4, 1, 2, 3, 4);
    }

    static void oneKeyLessThanTheThresholdIsMalformed() {
        malformedSet(2, 1, 1);
        malformedSet(3, 2, 1, 2);
        malformedSet(4, 3, 1, 2, 3);
        malformedSet(5, 4, 1, 2, 3, 4);
        malformedSet(255, 4, 1, 2, 3, 4);
    }

    // "and the keys, each greater than the one before"
    static void theSameKeyTwiceIsMalformed() {
        malformedSet(1, 2, 1, 1);
        malformedSet(1, 2, 0, 0);
        malformedSet(1, 4, 1, 2, 3, 3);
        malformedSet(1, 2, 9, 9);
    }

    static void aSmallerKeyBehindIsMalformed() {
        malformedSet(1, 2, 2, 1);
        malformedSet(1, 3, 0, 5, 4);
        malformedSet(1, 3, 4, 5, 0);
    }

    static void keysThatGrowByOneOrMoreAreSound() {
        soundSet(1, 2, 0, 1);
        soundSet(1, 2, 0, 9);
        soundSet(1, 4, 6, 7, 8, 9);
    }

    // "KEYS are 0 .. 9"
    static void key10InASetIsMalformed() {
        malformedSet(1, 1, 10);
        malformedSet(1, 2, 9, 10);
        malformedSet(1, 1, 255);
    }

    static void keys0And9InASetAreSound() {
        soundSet(1, 1, 0);
        soundSet(1, 1, 9);
    }

    // "Of STAMP: the snapshot's version, not 0, and its digest, four bytes"
    static void aStampOfSnapshot0IsMalformed() {
        malformed(Doc.stamp(1, 9, 0, 5));
    }

    static void aStampOfSnapshot1And255IsSound() {
        sound(Doc.stamp(1, 9, 1, 5));
        sound(Doc.stamp(1, 9, 255, 5));
    }

    static void everyDigestInAStampIsSound() {
        for (int digest : new int[] {0, -1, Integer.MIN_VALUE, Integer.MAX_VALUE}) {
            sound(Doc.stamp(1, 9, 1, digest));
        }
    }

    static void aDigestOfThreeBytesIsMalformed() {
        refusedByAll(Doc.head(1, 1, 9).with(1, 255, 255, 255));
        refusedByAll(Doc.head(1, 1, 9).with(1, 255, 255, 255).signed(0));
    }

    static void aDigestOfFiveBytesIsMalformed() {
        malformed(Doc.head(1, 1, 9).with(1, 255, 255, 255, 255, 255));
    }

    // "Of SNAPSHOT: how many entries, 1 .. 4"
    static void aSnapshotOfNoEntriesIsMalformed() {
        malformed(Doc.snapshot(1, 9));
    }

    static void aSnapshotOfOneEntryIsSound() {
        sound(Doc.snapshot(1, 9, 3, 1));
    }

    static void aSnapshotOfFourEntriesIsSound() {
        sound(Doc.snapshot(1, 9, 3, 1, 4, 2, 5, 3, 6, 4));
    }

    static void aSnapshotOfFiveEntriesIsMalformed() {
        malformed(Doc.snapshot(1, 9, 3, 1, 4, 2, 5, 3, 6, 4, 7, 5));
        malformed(Doc.snapshot(1, 9, 3, 1, 4, 2, 5, 3, 6, 4, 6, 5));
    }

    // "of each a role 3 .. 6"
    static void anEntryOfRole2IsMalformed() {
        malformed(Doc.snapshot(1, 9, 2, 1));
        malformed(Doc.snapshot(1, 9, 2, 1, 3, 1));
    }

    static void anEntryOfRole7IsMalformed() {
        malformed(Doc.snapshot(1, 9, 3, 1, 7, 1));
        malformed(Doc.snapshot(1, 9, 3, 1, 6, 1, 7, 1));
        malformed(Doc.snapshot(1, 9, 3, 1, 255, 1));
    }

    // "each greater than the one before"
    static void anEntryOfTheSameRoleIsMalformed() {
        malformed(Doc.snapshot(1, 9, 3, 1, 3, 1));
        malformed(Doc.snapshot(1, 9, 3, 1, 4, 1, 4, 2));
        malformed(Doc.snapshot(1, 9, 3, 1, 6, 1, 6, 1));
    }

    static void anEntryOfASmallerRoleIsMalformed() {
        malformed(Doc.snapshot(1, 9, 3, 1, 5, 1, 4, 1));
        malformed(Doc.snapshot(1, 9, 3, 1, 6, 1, 3, 1));
    }

    static void entriesMayLeaveARoleOut() {
        sound(Doc.snapshot(1, 9, 3, 1, 6, 1));
        sound(Doc.snapshot(1, 9, 3, 1, 5, 1));
        sound(Doc.snapshot(1, 9, 3, 1, 4, 1, 6, 1));
    }

    // "and a version, not 0"
    static void anEntryOfVersion0IsMalformed() {
        malformed(Doc.snapshot(1, 9, 3, 0));
        malformed(Doc.snapshot(1, 9, 3, 1, 4, 0));
        malformed(Doc.snapshot(1, 9, 3, 1, 4, 1, 5, 1, 6, 0));
    }

    static void anEntryOfVersion255IsSound() {
        sound(Doc.snapshot(1, 9, 3, 255, 6, 255));
    }

    // "the first one is that for TARGETS"
    static void aFirstEntryOfADelegateIsMalformed() {
        malformed(Doc.snapshot(1, 9, 4, 1));
        malformed(Doc.snapshot(1, 9, 4, 1, 5, 1, 6, 1));
        malformed(Doc.snapshot(1, 9, 4, 1, 3, 1));
    }

    // "how many TARGETS, at most 4"
    static void noTargetsAreSound() {
        soundTargets();
    }

    static void fourTargetsAreSound() {
        soundTargets(Doc.target("a", 1, 1), Doc.target("b", 1, 1), Doc.target("c", 1, 1), Doc.target("d", 1, 1));
    }

    static void fiveTargetsAreMalformed() {
        malformedTargets(Doc.target("a", 1, 1), Doc.target("b", 1, 1), Doc.target("c", 1, 1), Doc.target("d", 1, 1),
                Doc.target("e", 1, 1));
    }

    // "how many letters its name has, 1 .. 4"
    static void aNameOfNoLettersIsMalformed() {
        malformedTargets(Doc.target("", 1, 1));
        malformedTargets(Doc.target("a", 1, 1), Doc.target("", 1, 1));
    }

    static void namesOfOneToFourLettersAreSound() {
        soundTargets(Doc.target("a", 1, 1), Doc.target("bc", 1, 1), Doc.target("def", 1, 1), Doc.target("ghij", 1, 1));
    }

    static void aNameOfFiveLettersIsMalformed() {
        malformedTargets(Doc.target("abcde", 1, 1));
    }

    // "A NAME is one to four small letters."
    static void theFirstAndTheLastSmallLetterAreSound() {
        soundTargets(Doc.target("a", 1, 1), Doc.target("z", 1, 1), Doc.target("azaz", 1, 1));
    }

    static void whatIsNoSmallLetterInANameIsMalformed() {
        for (char sign : new char[] {'a' - 1, 'z' + 1, 'A', 'Z', '0', 0, 255}) {
            malformedTargets(Doc.target(String.valueOf(sign), 1, 1));
            malformedTargets(Doc.target("az" + sign + "a", 1, 1));
            malformedTargets(Doc.target("aza" + sign, 1, 1));
        }
    }

    // "its LENGTH, and its digest, four bytes"
    static void everyLengthAndDigestIsSound() {
        soundTargets(Doc.target("a", 0, 0), Doc.target("b", 255, -1), Doc.target("c", 121, Integer.MIN_VALUE));
    }

    // "no name twice"
    static void aNameTwiceIsMalformed() {
        malformedTargets(Doc.target("a", 1, 1), Doc.target("a", 1, 1));
        malformedTargets(Doc.target("abcd", 1, 1), Doc.target("abcd", 1, 1));
    }

    static void aNameTwiceWithOtherLengthOrDigestIsMalformed() {
        malformedTargets(Doc.target("ab", 1, 1), Doc.target("ab", 2, 1));
        malformedTargets(Doc.target("ab", 1, 1), Doc.target("ab", 1, 2));
    }

    static void aNameTwiceWithOthersBetweenIsMalformed() {
        malformedTargets(Doc.target("a", 1, 1), Doc.target("b", 1, 1), Doc.target("c", 1, 1), Doc.target("a", 1, 1));
        malformedTargets(Doc.target("c", 1, 1), Doc.target("a", 1, 1), Doc.target("b", 1, 1), Doc.target("a", 1, 1));
    }

    static void aNameThatBeginsAnotherIsSound() {
        soundTargets(Doc.target("a", 1, 1), Doc.target("ab", 1, 1), Doc.target("abc", 1, 1), Doc.target("abcd", 1, 1));
        soundTargets(Doc.target("abcd", 1, 1), Doc.target("abc", 1, 1), Doc.target("ab", 1, 1), Doc.target("a", 1, 1));
    }

    static void namesThatDifferInTheirLastLetterAreSound() {
        soundTargets(Doc.target("abcd", 1, 1), Doc.target("abce", 1, 1), Doc.target("ab", 1, 1), Doc.target("aa", 1,
                1));
    }

    // "then how many DELEGATIONS, at most 3"
    static void noDelegationsAreSound() {
        soundDelegations();
    }

    static void threeDelegationsAreSound() {
        soundDelegations(Doc.delegation(6, 0, SET, ""), Doc.delegation(4, 1, SET, "a"), Doc.delegation(5, 0, SET, "b"));
    }

    static void fourDelegationsAreMalformed() {
        malformedDelegations(Doc.delegation(4, 0, SET, ""), Doc.delegation(5, 0, SET, ""), Doc.delegation(6, 0, SET,
                ""),
                Doc.delegation(4, 0, SET, ""));
    }

    // "a role 4 .. 6"
    static void delegationsToRoles4To6AreSound() {
        for (int role = 4; role <= 6; role++) {
            soundDelegations(Doc.delegation(role, 0, SET, ""));
        }
    }

    static void aDelegationToTargetsIsMalformed() {
        malformedDelegations(Doc.delegation(3, 0, SET, ""));
    }

    static void aDelegationToRole7IsMalformed() {
        malformedDelegations(Doc.delegation(7, 0, SET, ""));
    }

    static void aDelegationToAnyOtherRoleIsMalformed() {
        for (int role : new int[] {0, 1, 2, 36, 255}) {
            malformedDelegations(Doc.delegation(role, 0, SET, ""));
        }
    }

    // "no role twice"
    static void aRoleTwiceIsMalformed() {
        for (int role = 4; role <= 6; role++) {
            malformedDelegations(Doc.delegation(role, 0, SET, ""), Doc.delegation(role, 0, SET, ""));
        }
    }

    static void aRoleTwiceWithOtherKeysOrPrefixIsMalformed() {
        malformedDelegations(Doc.delegation(4, 0, SET, "a"), Doc.delegation(4, 1, Doc.keys(1, 5), "b"));
    }

    static void aRoleTwiceWithAnotherBetweenIsMalformed() {
        malformedDelegations(Doc.delegation(5, 0, SET, ""), Doc.delegation(4, 0, SET, ""), Doc.delegation(5, 0, SET,
                ""));
        malformedDelegations(Doc.delegation(6, 0, SET, ""), Doc.delegation(4, 0, SET, ""), Doc.delegation(4, 0, SET,
                ""));
    }

    // "1 if it is FINAL, else 0"
    static void finalOf0And1IsSound() {
        soundDelegations(Doc.delegation(4, 0, SET, ""), Doc.delegation(5, 1, SET, ""));
    }

    static void finalOf2IsMalformed() {
        malformedDelegations(Doc.delegation(4, 2, SET, ""));
        malformedDelegations(Doc.delegation(4, 255, SET, ""));
    }

    // "how many letters a PREFIX has, at most 3"
    static void prefixesOfNoneToThreeLettersAreSound() {
        for (String prefix : new String[] {"", "a", "ab", "abc"}) {
            soundDelegations(Doc.delegation(4, 0, SET, prefix));
        }
    }

    static void aPrefixOfFourLettersIsMalformed() {
        malformedDelegations(Doc.delegation(4, 0, SET, "abcd"));
    }

    // "and these, small ones"
    static void theFirstAndTheLastSmallLetterInAPrefixAreSound() {
        soundDelegations(Doc.delegation(4, 0, SET, "aza"), Doc.delegation(5, 0, SET, "z"));
    }

    static void whatIsNoSmallLetterInAPrefixIsMalformed() {
        for (char sign : new char[] {'a' - 1, 'z' + 1, 'A', 'Z', '0', 0, 255}) {
            malformedDelegations(Doc.delegation(4, 0, SET, String.valueOf(sign)));
            malformedDelegations(Doc.delegation(4, 0, SET, "az" + sign));
        }
    }

    static void twoDelegationsMayHaveOnePrefix() {
        soundDelegations(Doc.delegation(4, 0, SET, "a"), Doc.delegation(5, 0, SET, "a"));
    }

    // "The draft is MALFORMED, if it is no document"
    static void nothingIsMalformed() {
        refusedByAll(new Doc());
    }

    static void everyDocumentThatIsCutIsMalformed() {
        for (Doc part : oneOfEach(1, 9)) {
            Doc document = part.signed(1, 2);
            for (int size = 1; size < document.bytes.length; size++) {
                if (size != part.bytes.length) {
                    refusedByAll(document.cut(size));
                }
            }
        }
    }

    static void everyCutInTargetsAndDelegationsIsMalformed() {
        int[][] targets = {Doc.target("ab", 1, 1), Doc.target("b", 1, 1)};
        int[][] delegations = {Doc.delegation(4, 0, SET, "ab"), Doc.delegation(5, 1, Doc.keys(2, 1, 2), "")};
        Doc part = Doc.targets(3, 1, 9, targets, delegations);
        for (int size = 1; size < part.bytes.length; size++) {
            refusedByAll(part.cut(size));
        }
    }

    static void withoutTheNumberOfSignaturesItIsMalformedForAllButSign() {
        for (Doc part : oneOfEach(1, 9)) {
            Run.withEveryRole().draft(part).refuses(IllegalArgumentException.class, Call.offer())
                    .refuses(IllegalArgumentException.class, Call.begin()).due(Call.sign(0), 1);
        }
    }

    // "or bytes stand behind it"
    static void oneByteBehindIsMalformed() {
        for (Doc part : oneOfEach(1, 9)) {
            refusedByAll(part.signed().with(0));
            refusedByAll(part.signed(1).with(0));
            refusedByAll(part.signed(0, 1, 2, 3, 4, 5).with(1));
        }
    }

    static void bytesBehindUpToAFullDraftAreMalformed() {
        for (Doc part : oneOfEach(1, 9)) {
            Doc document = part.signed(1);
            refusedByAll(document.with(new int[120 - document.bytes.length]));
        }
    }

    static void twoDocumentsAreMalformed() {
        refusedByAll(STAMP.signed(1).with(STAMP.signed(1).bytes));
    }

    private TermsDocumentTest() {
    }
}
