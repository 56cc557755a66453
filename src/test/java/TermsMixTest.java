import java.math.BigInteger;

/** The terms: the mix, the signature and the digest. */
public final class TermsMixTest {
    private static final BigInteger WORD = BigInteger.ONE.shiftLeft(32);
    private static final int[] NUMBERS = {0, 1, 2, 10, 255, 256, -1, Integer.MIN_VALUE, Integer.MAX_VALUE};

    public static void main(String[] args) {
        Cases.run(TermsMixTest.class);
    }

    /** The mix in numbers without bounds, cut to 32 bits where the document wraps. */
    private static int slowMix(int s, int... row) {
        BigInteger h = wrapped(BigInteger.valueOf(s).multiply(BigInteger.valueOf(0x9E3779B9L)));
        for (int b : row) {
            h = wrapped(h.xor(BigInteger.valueOf(b)).multiply(BigInteger.valueOf(0x01000193L)));
            h = h.xor(h.divide(BigInteger.valueOf(1 << 15)));
        }
        return h.intValue();
    }

    private static BigInteger wrapped(BigInteger number) {
        return number.mod(WORD);
    }

    private static void mixes(int... row) {
        Run run = new Run().draft(new Doc(row));
        for (int s : NUMBERS) {
            run.due(Call.mix(s), slowMix(s, row));
        }
    }

    // "h is s * 0x9E3779B9 first"
    static void noBytesLeaveTheProduct() {
        Run run = new Run();
        run.due(Call.mix(0), 0).due(Call.mix(1), 0x9E3779B9).due(Call.mix(2), 0x3C6EF372);
        run.due(Call.mix(-1), 0x61C88647).due(Call.mix(Integer.MIN_VALUE), Integer.MIN_VALUE);
        mixes();
    }

    // "for each byte b (0 .. 255)"
    static void theSmallestByteCounts() {
        mixes(0);
        mixes(0, 0);
        new Run().draft(new Doc(0)).due(Call.mix(1), slowMix(1, 0));
    }

    static void theLargestByteIsNotNegative() {
        mixes(255);
        mixes(128);
        mixes(127);
        mixes(255, 255, 255, 255);
    }

    // "in order"
    static void theOrderOfTheBytesCounts() {
        mixes('a', 'b');
        mixes('b', 'a');
    }

    // "then h xor (h shifted right by 15 without sign)"
    static void theShiftHasNoSign() {
        int product = 0x80 * 0x01000193;
        if (product >= 0) {
            throw new AssertionError("this byte does not make h negative");
        }
        new Run().draft(new Doc(0x80)).due(Call.mix(0), product ^ product >>> 15);
    }

    // "all wrapping"
    static void aFullDraftWraps() {
        int[] row = new int[120];
        for (int i = 0; i < row.length; i++) {
            row[i] = 255 - i;
        }
        mixes(row);
    }

    // "THE SIGNATURE of key k for a row of bytes is its mix with k + 1"
    static void eachKeysSignatureIsTheMixWithOneMore() {
        Doc part = Doc.stamp(1, 9, 1, 5);
        for (int key = 0; key <= 9; key++) {
            int signature = slowMix(key + 1, part.bytes);
            new Run().draft(part).due(Call.mix(key + 1), signature).due(Call.sign(key), 1)
                    .hasDraft(part.with(1, key).with(Doc.word(signature)).bytes);
        }
    }

    // "THE DIGEST of a row its mix with 0"
    static void theDigestIsTheMixWithZero() {
        new Run().keeps(1, 2, 255).does(Call.cut(0), Call.digest()).hasDraft(Doc.word(slowMix(0, 1, 2, 255)));
    }

    private TermsMixTest() {
    }
}
