/** Promise 2: put. */
public final class Promise02PutTest {
    public static void main(String[] args) {
        Cases.run(Promise02PutTest.class);
    }

    private static Run full(int size) {
        return new Run().draft(new Doc(new int[size]));
    }

    // "n bytes come behind the draft, the lowest 8 bits of w first"
    static void eachCountPutsSoManyBytesLowestFirst() {
        for (int n = 1; n <= 8; n++) {
            int[] row = new int[1 + n];
            row[0] = 77;
            for (int i = 1; i <= n; i++) {
                row[i] = 0x11 * i;
            }
            new Run().does(Call.put(77, 1), Call.put(0x8877665544332211L, n)).hasDraft(row);
        }
    }

    static void aNegativeWordHasBytesUpTo255() {
        new Run().does(Call.put(-1L, 8)).hasDraft(255, 255, 255, 255, 255, 255, 255, 255);
        new Run().does(Call.put(Long.MIN_VALUE, 8)).hasDraft(0, 0, 0, 0, 0, 0, 0, 128);
        new Run().does(Call.put(-256L, 2)).hasDraft(0, 255);
    }

    static void whatStandsAboveTheLastByteIsLeftOut() {
        new Run().does(Call.put(0x1234567890L, 1)).hasDraft(0x90);
    }

    // "False, changing nothing, when n is not 1 .. 8"
    static void nOfZeroIsRefused() {
        full(3).declines(Call.put(5, 0));
        new Run().declines(Call.put(5, 0));
    }

    static void nOfNineIsRefused() {
        full(3).declines(Call.put(5, 9));
    }

    static void nBelowZeroIsRefused() {
        full(3).declines(Call.put(5, -1)).declines(Call.put(5, -8)).declines(Call.put(5, Integer.MIN_VALUE));
    }

    static void nFarAboveEightIsRefused() {
        full(3).declines(Call.put(5, 257)).declines(Call.put(5, 120)).declines(Call.put(5, Integer.MAX_VALUE));
    }

    // "or it would have more than 120"
    static void theDraftCanBeFilledTo120() {
        full(119).does(Call.put(9, 1)).due(Call.length(), 120).due(Call.at(119), 9);
        full(112).does(Call.put(0x0908070605040302L, 8)).due(Call.length(), 120).due(Call.at(119), 9);
    }

    static void oneByteMoreThan120IsRefused() {
        full(120).declines(Call.put(9, 1));
        full(119).declines(Call.put(9, 2));
        full(113).declines(Call.put(9, 8));
    }

    static void eightBytesMoreThan120AreRefused() {
        full(120).declines(Call.put(9, 8));
    }

    static void aFullDraftTakesBytesAgainWhenItIsCut() {
        full(120).does(Call.cut(119)).declines(Call.put(9, 2)).does(Call.put(9, 1)).due(Call.at(119), 9);
    }

    private Promise02PutTest() {
    }
}
