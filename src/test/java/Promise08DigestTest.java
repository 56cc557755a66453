/** Promise 8: digest. */
public final class Promise08DigestTest {
    public static void main(String[] args) {
        Cases.run(Promise08DigestTest.class);
    }

    // "Puts the four bytes of the digest of the content behind the draft.", "with the highest first"
    static void comesBehindTheDraftHighestFirst() {
        int[] digest = Doc.word(Doc.mix(new int[] {1, 2, 3}, 3, 0));
        new Run().keeps(1, 2, 3).draft(new Doc(9)).does(Call.digest()).hasDraft(Doc.join(new int[] {9}, digest));
    }

    static void ofNoContentIsZero() {
        new Run().draft(new Doc(9)).does(Call.digest()).hasDraft(9, 0, 0, 0, 0);
    }

    static void ofAnEmptyContentIsZero() {
        new Run().keeps(1).keeps().does(Call.digest()).hasDraft(0, 0, 0, 0);
    }

    static void ofAFullContent() {
        int[] row = new int[120];
        java.util.Arrays.fill(row, 200);
        new Run().keeps(row).does(Call.cut(0), Call.digest()).hasDraft(Doc.word(Doc.mix(row, 120, 0)));
    }

    static void isNotThatOfTheDraft() {
        int[] digest = Doc.word(Doc.mix(new int[] {1}, 1, 0));
        new Run().keeps(1).does(Call.alter(0, 2), Call.digest()).hasDraft(Doc.join(new int[] {2}, digest));
    }

    static void twiceIsTheSameTwice() {
        int[] digest = Doc.word(Doc.mix(new int[] {1}, 1, 0));
        new Run().keeps(1).does(Call.cut(0), Call.digest(), Call.digest()).hasDraft(Doc.join(digest, digest));
    }

    // "False, changing nothing, when it would have more than 120."
    static void fillsTheDraftTo120() {
        new Run().keeps(1).draft(new Doc(new int[116])).does(Call.digest()).due(Call.length(), 120);
    }

    static void oneByteMoreThan120IsRefused() {
        new Run().keeps(1).draft(new Doc(new int[117])).declines(Call.digest());
    }

    static void behindAFullDraftItIsRefused() {
        new Run().keeps(1).draft(new Doc(new int[120])).declines(Call.digest());
    }

    private Promise08DigestTest() {
    }
}
