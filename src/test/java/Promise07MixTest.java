/** Promise 7: mix (how it is made stands with the terms). */
public final class Promise07MixTest {
    public static void main(String[] args) {
        Cases.run(Promise07MixTest.class);
    }

    static void isThatOfTheDraftAndChangesNothing() {
        int[] row = {1, 2, 3};
        new Run().draft(new Doc(row)).tells(Call.mix(7), Doc.mix(row, 3, 7));
    }

    static void isNotThatOfTheContent() {
        new Run().keeps(1, 2, 3).draft(new Doc(4)).due(Call.mix(0), Doc.mix(new int[] {4}, 1, 0));
    }

    static void leavesOutWhatWasCut() {
        new Run().draft(new Doc(1, 2, 3)).does(Call.cut(1)).due(Call.mix(3), Doc.mix(new int[] {1}, 1, 3));
    }

    static void goesOverTheWholeSignedDocument() {
        Doc signed = World.ROOT.signed(3);
        new Run().draft(signed).due(Call.mix(4), Doc.mix(signed.bytes, signed.bytes.length, 4));
    }

    private Promise07MixTest() {
    }
}
