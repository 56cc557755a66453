/** Promise 10: content. */
public final class Promise10ContentTest {
    public static void main(String[] args) {
        Cases.run(Promise10ContentTest.class);
    }

    private static int[] digestOf(int... row) {
        return Doc.word(Doc.mix(row, row.length, 0));
    }

    // "How many bytes it has."
    static void ofNothingIsZero() {
        new Run().due(Call.content(), 0).does(Call.digest()).hasDraft(0, 0, 0, 0);
    }

    static void ofAFullDraftIs120() {
        int[] row = new int[120];
        row[119] = 1;
        new Run().draft(new Doc(row)).due(Call.content(), 120).does(Call.cut(0), Call.digest()).hasDraft(digestOf(row));
    }

    // "The draft is kept as the content that install() is about."
    static void theDraftStays() {
        new Run().keeps(1, 2).hasDraft(1, 2);
    }

    static void theContentStaysWhenTheDraftIsAltered() {
        new Run().keeps(1, 2).does(Call.alter(0, 9), Call.cut(1), Call.put(5, 2), Call.cut(0), Call.digest())
                .hasDraft(digestOf(1, 2));
    }

    static void aNewContentTakesThePlaceOfTheOld() {
        new Run().keeps(1, 2, 3).keeps(4).does(Call.cut(0), Call.digest()).hasDraft(digestOf(4));
    }

    static void anEmptyContentTakesThePlaceOfTheOld() {
        new Run().keeps(1, 2, 3).does(Call.cut(0)).due(Call.content(), 0).does(Call.digest()).hasDraft(0, 0, 0, 0);
    }

    static void nothingElseChanges() {
        Run.withEveryRole().due(Call.content(), 19).trusts(1, 0, 1, 2).trustsNone(3, 4, 5, 6).due(Call.tick(0), 0)
                .due(Call.installed(), 0).due(Call.visits(), 0);
    }

    private Promise10ContentTest() {
    }
}
