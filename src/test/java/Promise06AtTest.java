/** Promise 6: at. */
public final class Promise06AtTest {
    public static void main(String[] args) {
        Cases.run(Promise06AtTest.class);
    }

    private static Run three() {
        return new Run().draft(new Doc(0, 128, 255));
    }

    static void theFirstAndTheLastByte() {
        three().tells(Call.at(0), 0).tells(Call.at(1), 128).tells(Call.at(2), 255);
        new Run().draft(new Doc(new int[119]).with(5)).due(Call.at(119), 5);
    }

    // "IndexOutOfBoundsException when there is none."
    static void noByteOfNothing() {
        new Run().refuses(IndexOutOfBoundsException.class, Call.at(0));
    }

    static void noByteBehindTheLast() {
        three().refuses(IndexOutOfBoundsException.class, Call.at(3))
                .refuses(IndexOutOfBoundsException.class, Call.at(Integer.MAX_VALUE));
        new Run().draft(new Doc(new int[120])).refuses(IndexOutOfBoundsException.class, Call.at(120));
    }

    static void noByteBelowZero() {
        three().refuses(IndexOutOfBoundsException.class, Call.at(-1))
                .refuses(IndexOutOfBoundsException.class, Call.at(Integer.MIN_VALUE));
    }

    static void noByteThatWasCut() {
        three().does(Call.cut(2)).refuses(IndexOutOfBoundsException.class, Call.at(2));
    }

    private Promise06AtTest() {
    }
}
