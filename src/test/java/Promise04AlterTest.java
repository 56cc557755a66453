/** Promise 4: alter. */
public final class Promise04AlterTest {
    public static void main(String[] args) {
        Cases.run(Promise04AlterTest.class);
    }

    private static Run three() {
        return new Run().draft(new Doc(7, 8, 9));
    }

    // "Byte i of the draft becomes v"
    static void theFirstByteBecomesIt() {
        three().does(Call.alter(0, 255)).hasDraft(255, 8, 9);
    }

    static void theLastByteBecomesIt() {
        three().does(Call.alter(2, 0)).hasDraft(7, 8, 0);
        new Run().draft(new Doc(new int[120])).does(Call.alter(119, 3)).due(Call.at(119), 3).due(Call.length(), 120);
    }

    static void theByteThatItIsAlreadyIsTrue() {
        three().tells(Call.alter(1, 8), 1);
    }

    // "(its lowest 8 bits)"
    static void ofANumberAbove255TheLowestBitsCount() {
        three().does(Call.alter(1, 256)).hasDraft(7, 0, 9).does(Call.alter(1, 0x1234)).hasDraft(7, 0x34, 9);
        three().does(Call.alter(1, Integer.MAX_VALUE)).hasDraft(7, 255, 9);
    }

    static void ofANumberBelowZeroTheLowestBitsCount() {
        three().does(Call.alter(1, -1)).hasDraft(7, 255, 9).does(Call.alter(1, -255)).hasDraft(7, 1, 9);
        three().does(Call.alter(1, Integer.MIN_VALUE)).hasDraft(7, 0, 9);
    }

    // "False when there is none."
    static void noByteOfNothing() {
        new Run().declines(Call.alter(0, 1));
    }

    static void noByteBehindTheLast() {
        three().declines(Call.alter(3, 1)).declines(Call.alter(119, 1)).declines(Call.alter(120, 1))
                .declines(Call.alter(Integer.MAX_VALUE, 1));
        new Run().draft(new Doc(new int[120])).declines(Call.alter(120, 1));
    }

    static void noByteBelowZero() {
        three().declines(Call.alter(-1, 1)).declines(Call.alter(Integer.MIN_VALUE, 1));
    }

    static void noByteThatWasCut() {
        three().does(Call.cut(2)).declines(Call.alter(2, 1));
    }

    private Promise04AlterTest() {
    }
}
