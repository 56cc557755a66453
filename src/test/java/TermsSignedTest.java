/** The terms: by how many of some keys a document is SIGNED, seen with a stamp. */
public final class TermsSignedTest {
    private static final Doc PART = Doc.stamp(1, 500, 1, 5);
    private static final int[] ONE = Doc.keys(1, 0);

    public static void main(String[] args) {
        Cases.run(TermsSignedTest.class);
    }

    private static Run asking(int threshold, int... keys) {
        return new Run().begins(Doc.root(1, 500, ONE, Doc.keys(threshold, keys), ONE, ONE).signed());
    }

    private static int signature(int key) {
        return Doc.mix(PART.bytes, PART.bytes.length, key + 1);
    }

    // "SIGNED BY so many of some keys, as there are different ones among these whose signature .. it has"
    static void noSignatureIsTooFew() {
        asking(1, 5).refuses(IllegalStateException.class, PART.signed());
    }

    static void eachKeyOfTheSetCounts() {
        for (int key : new int[] {0, 4, 5, 9}) {
            asking(1, 0, 4, 5, 9).takes(PART.signed(key));
        }
    }

    static void aKeyThatIsNotInTheSetDoesNotCount() {
        asking(1, 1, 3, 5, 7).refuses(IllegalStateException.class, PART.signed(0, 2, 4, 6, 8, 9));
    }

    static void oneLessThanTheThresholdIsTooFew() {
        asking(2, 4, 5, 9).refuses(IllegalStateException.class, PART.signed(4));
        asking(3, 4, 5, 9).refuses(IllegalStateException.class, PART.signed(4, 9));
        asking(4, 4, 5, 7, 9).refuses(IllegalStateException.class, PART.signed(4, 5, 9));
    }

    static void justTheThresholdIsEnough() {
        asking(2, 4, 5, 9).takes(PART.signed(4, 9));
        asking(3, 4, 5, 9).takes(PART.signed(4, 9, 5));
        asking(4, 4, 5, 7, 9).takes(PART.signed(4, 5, 9, 7));
    }

    static void moreThanTheThresholdIsEnough() {
        asking(1, 4, 5, 7, 9).takes(PART.signed(4, 5, 7, 9));
        asking(2, 4, 5, 9).takes(PART.signed(4, 5, 9));
    }

    static void oneKeyTwiceCountsOnce() {
        asking(2, 4, 5).refuses(IllegalStateException.class, PART.signed(4, 4));
        asking(2, 4, 5).refuses(IllegalStateException.class, PART.signed(5, 5, 5, 5, 5, 5));
        asking(2, 4, 5).takes(PART.signed(4, 4, 5));
    }

    static void signaturesOfOthersBesideDoNotHinder() {
        asking(1, 4).takes(PART.signed(0, 1, 2, 3, 5, 4));
        asking(2, 4, 8).takes(PART.signed(8, 0, 1, 2, 3, 4));
    }

    static void theirOrderDoesNotMatter() {
        asking(2, 4, 5).takes(PART.signed(5, 4)).takes(PART.signed(4, 5));
    }

    // "whose signature for its signed part it has"
    static void aSignatureThatIsWrongInOneBitDoesNotCount() {
        for (int bit = 0; bit < 32; bit++) {
            asking(1, 4).refuses(IllegalStateException.class, PART.with(1, 4).with(Doc.word(signature(4) ^ 1 << bit)));
        }
    }

    static void aSignatureWithItsLowestByteFirstDoesNotCount() {
        int[] turned = Doc.word(Integer.reverseBytes(signature(4)));
        asking(1, 4).refuses(IllegalStateException.class, PART.with(1, 4).with(turned));
    }

    static void aSignatureUnderAnotherKeyDoesNotCount() {
        asking(1, 4).refuses(IllegalStateException.class, PART.with(1, 4).with(Doc.word(signature(5))));
        asking(1, 4).refuses(IllegalStateException.class, PART.with(1, 5).with(Doc.word(signature(4))));
    }

    static void aWrongOneDoesNotHinderTheRightOneOfTheKey() {
        int[] right = Doc.word(signature(4));
        asking(1, 4).takes(PART.with(2, 4, 1, 2, 3, 4, 4).with(right));
        asking(1, 4).takes(PART.with(2, 4).with(right).with(4, 1, 2, 3, 4));
    }

    static void aWrongOneAndTheRightOneCountOnce() {
        int[] right = Doc.word(signature(4));
        asking(2, 4, 5).refuses(IllegalStateException.class, PART.with(2, 4, 1, 2, 3, 4, 4).with(right));
    }

    static void theSixthSignatureCounts() {
        asking(1, 4).takes(PART.signed(9, 9, 9, 9, 9, 4));
    }

    // "What stands before the number of signatures is SIGNED."
    static void everyByteBeforeTheNumberIsSigned() {
        Doc signed = PART.signed(4);
        for (int i = 1; i < PART.bytes.length; i++) {
            asking(1, 4).refuses(IllegalStateException.class, signed.altered(i, signed.bytes[i] + 1));
        }
    }

    static void theNumberOfSignaturesIsNotSigned() {
        int[] withNumber = PART.with(1).bytes;
        int wrong = Doc.mix(withNumber, withNumber.length, 5);
        asking(1, 4).refuses(IllegalStateException.class, PART.with(1, 4).with(Doc.word(wrong)));
    }

    static void theSignaturesBeforeAreNotSigned() {
        asking(2, 4, 5).takes(PART.signed(4, 5));
        int[] before = PART.signed(4).bytes;
        int wrong = Doc.mix(before, before.length, 6);
        asking(2, 4, 5).refuses(IllegalStateException.class,
                PART.signed(4).altered(PART.bytes.length, 2).with(5).with(Doc.word(wrong)));
    }

    static void theSignatureOfAnotherDocumentDoesNotCount() {
        int[] other = Doc.stamp(2, 500, 1, 5).bytes;
        int wrong = Doc.mix(other, other.length, 5);
        asking(1, 4).refuses(IllegalStateException.class, PART.with(1, 4).with(Doc.word(wrong)));
    }

    private TermsSignedTest() {
    }
}
