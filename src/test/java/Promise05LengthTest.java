/** Promise 5: length. */
public final class Promise05LengthTest {
    public static void main(String[] args) {
        Cases.run(Promise05LengthTest.class);
    }

    static void ofNothingIsZero() {
        new Run().tells(Call.length(), 0);
    }

    static void ofAFullDraftIs120() {
        new Run().draft(new Doc(new int[120])).tells(Call.length(), 120);
    }

    static void growsByWhatIsPut() {
        new Run().does(Call.put(1, 1)).due(Call.length(), 1).does(Call.put(1, 8)).due(Call.length(), 9);
    }

    static void growsByFourWithADigest() {
        new Run().does(Call.digest()).due(Call.length(), 4);
    }

    static void growsBySixWithAFirstSignatureAndByFiveWithMore() {
        int size = World.ROOT.bytes.length;
        new Run().draft(World.ROOT).due(Call.sign(1), 1).due(Call.length(), size + 6)
                .due(Call.sign(2), 2).due(Call.length(), size + 11);
    }

    static void staysWithWhatDoesNotTouchTheDraft() {
        new Run().draft(World.ROOT.signed()).does(Call.alter(3, 1)).due(Call.begin(), 0).due(Call.content(), 17)
                .due(Call.tick(1), 1).due(Call.length(), 17);
    }

    private Promise05LengthTest() {
    }
}
