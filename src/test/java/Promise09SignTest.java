/** Promise 9: sign. */
public final class Promise09SignTest {
    private static final Doc PART = Doc.stamp(1, 9, 1, 5);

    public static void main(String[] args) {
        Cases.run(Promise09SignTest.class);
    }

    private static Run with(Doc draft) {
        return Run.withEveryRole().draft(draft);
    }

    private static Run six() {
        return with(PART.signed(0, 1, 2, 3, 4, 5));
    }

    /** The largest document that the terms allow: four targets and three delegations, each as long as can be. */
    private static Doc largest() {
        int[] set = Doc.keys(4, 6, 7, 8, 9);
        int[][] targets = {Doc.target("aaaa", 1, 1), Doc.target("aaab", 1, 1), Doc.target("aaac", 1, 1),
            Doc.target("aaad", 1, 1)};
        int[][] delegations = {Doc.delegation(4, 1, set, "abc"), Doc.delegation(5, 0, set, "abd"),
            Doc.delegation(6, 1, set, "abe")};
        return Doc.targets(6, 255, 65535, targets, delegations);
    }

    // "the number of them grows by 1 (or is 1), and the key's signature comes behind them"
    static void whatHasNoNumberGetsOne() {
        with(PART).due(Call.sign(7), 1).hasDraft(PART.signed(7).bytes);
    }

    static void aNumberOfZeroBecomesOne() {
        with(PART.signed()).due(Call.sign(7), 1).hasDraft(PART.signed(7).bytes);
    }

    static void theNumberGrowsUpToSix() {
        with(PART.signed(0, 1, 2, 3, 4)).due(Call.sign(5), 6).hasDraft(PART.signed(0, 1, 2, 3, 4, 5).bytes);
    }

    static void aWrongSignatureIsLeftWhereItIs() {
        Doc wrong = PART.with(1, 3, 1, 2, 3, 4);
        int[] right = Doc.word(Doc.mix(PART.bytes, PART.bytes.length, 4));
        with(wrong).due(Call.sign(3), 2).hasDraft(PART.with(2, 3, 1, 2, 3, 4, 3).with(right).bytes);
    }

    // "(whether it is there already or not)"
    static void aKeyThatIsThereAlreadyComesAgain() {
        with(PART.signed(7)).due(Call.sign(7), 2).hasDraft(PART.signed(7, 7).bytes);
    }

    static void oneKeyCanSignSixTimes() {
        Run run = with(PART);
        for (int i = 1; i <= 6; i++) {
            run.due(Call.sign(9), i);
        }
        run.hasDraft(PART.signed(9, 9, 9, 9, 9, 9).bytes).refuses(UnsupportedOperationException.class, Call.sign(9));
    }

    static void everyRoleCanBeSigned() {
        Doc[] parts = {World.ROOT, PART, Doc.snapshot(1, 9, 3, 1), World.empty(3, 1, 9), World.empty(4, 1, 9),
            World.empty(5, 1, 9), World.empty(6, 1, 9)};
        for (Doc part : parts) {
            with(part).due(Call.sign(2), 1).hasDraft(part.signed(2).bytes);
            with(part.signed(1)).due(Call.sign(2), 2).hasDraft(part.signed(1, 2).bytes);
        }
    }

    static void nothingTrustedChanges() {
        Run run = with(PART).due(Call.sign(1), 1);
        run.trusts(1, 0, 1, 2).trustsNone(3, 4, 5, 6);
    }

    // "IndexOutOfBoundsException when there is no such key"
    static void theFirstAndTheLastKeySign() {
        with(PART).due(Call.sign(0), 1).due(Call.sign(9), 2).hasDraft(PART.signed(0, 9).bytes);
    }

    static void keyTenIsRefused() {
        with(PART).refuses(IndexOutOfBoundsException.class, Call.sign(10));
    }

    static void keyBelowZeroIsRefused() {
        with(PART).refuses(IndexOutOfBoundsException.class, Call.sign(-1))
                .refuses(IndexOutOfBoundsException.class, Call.sign(Integer.MIN_VALUE));
    }

    static void keyFarAboveNineIsRefused() {
        with(PART).refuses(IndexOutOfBoundsException.class, Call.sign(256))
                .refuses(IndexOutOfBoundsException.class, Call.sign(Integer.MAX_VALUE));
    }

    // "IllegalArgumentException when the draft is neither a document nor one without the number of its signatures"
    static void nothingIsRefused() {
        new Run().refuses(IllegalArgumentException.class, Call.sign(0));
    }

    static void aSignedPartThatIsCutIsRefused() {
        for (int size = 0; size < PART.bytes.length; size++) {
            with(PART.cut(size)).refuses(IllegalArgumentException.class, Call.sign(0));
        }
    }

    static void aSignatureThatIsCutIsRefused() {
        Doc signed = PART.signed(0, 1);
        for (int size = PART.bytes.length + 1; size < signed.bytes.length; size++) {
            with(signed.cut(size)).refuses(IllegalArgumentException.class, Call.sign(0));
        }
    }

    static void aByteBehindTheSignaturesIsRefused() {
        with(PART.signed(0).with(0)).refuses(IllegalArgumentException.class, Call.sign(0));
        with(PART.signed().with(0)).refuses(IllegalArgumentException.class, Call.sign(0));
    }

    static void aWrongPartIsRefused() {
        with(PART.altered(1, 0)).refuses(IllegalArgumentException.class, Call.sign(0));
        with(PART.altered(0, 7)).refuses(IllegalArgumentException.class, Call.sign(0));
    }

    static void sevenSignaturesAreRefused() {
        with(PART.signed(0, 1, 2, 3, 4, 5, 6)).refuses(IllegalArgumentException.class, Call.sign(0));
    }

    // "UnsupportedOperationException when it has six"
    static void aSeventhSignatureIsRefused() {
        six().refuses(UnsupportedOperationException.class, Call.sign(6));
    }

    static void aSeventhOfAKeyThatIsThereIsRefused() {
        six().refuses(UnsupportedOperationException.class, Call.sign(0));
    }

    static void sixWrongSignaturesAreSixToo() {
        with(PART.with(6).with(new int[30])).refuses(UnsupportedOperationException.class, Call.sign(0));
    }

    // "or would have more than 120 bytes": no document is so long, so the largest can have all its six signatures
    static void theLargestDocumentHasRoomForSix() {
        Doc largest = largest();
        Run run = with(largest);
        for (int i = 1; i <= 6; i++) {
            run.due(Call.sign(i), i);
        }
        run.hasDraft(largest.signed(1, 2, 3, 4, 5, 6).bytes).due(Call.length(), 113);
    }

    // "where several exceptions that a call names fit, it is the one that it names first"
    static void noKeyComesBeforeNoDocument() {
        new Run().refuses(IndexOutOfBoundsException.class, Call.sign(10));
        with(PART.with(0, 0)).refuses(IndexOutOfBoundsException.class, Call.sign(-1));
    }

    static void noKeyComesBeforeSixSignatures() {
        six().refuses(IndexOutOfBoundsException.class, Call.sign(10));
    }

    static void noDocumentComesBeforeSixSignatures() {
        with(PART.signed(0, 1, 2, 3, 4, 5).with(0)).refuses(IllegalArgumentException.class, Call.sign(0));
    }

    static void noDocumentComesBeforeMoreThan120() {
        Doc signed = PART.signed(0, 1, 2, 3, 4, 5);
        with(signed.with(new int[120 - signed.bytes.length])).refuses(IllegalArgumentException.class, Call.sign(0));
        with(new Doc(new int[120])).refuses(IllegalArgumentException.class, Call.sign(0));
    }

    private Promise09SignTest() {
    }
}
