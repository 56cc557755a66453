/** Promise 3: cut. */
public final class Promise03CutTest {
    public static void main(String[] args) {
        Cases.run(Promise03CutTest.class);
    }

    private static Run three() {
        return new Run().draft(new Doc(7, 8, 9));
    }

    // "The draft keeps its first n bytes."
    static void keepsTheFirstOnes() {
        three().does(Call.cut(2)).hasDraft(7, 8).refuses(IndexOutOfBoundsException.class, Call.at(2));
    }

    static void zeroLeavesNothing() {
        three().does(Call.cut(0)).hasDraft();
    }

    static void zeroOfNothingIsTrue() {
        new Run().tells(Call.cut(0), 1);
    }

    static void allOfItStays() {
        three().tells(Call.cut(3), 1).hasDraft(7, 8, 9);
    }

    static void allOfAFullDraftStays() {
        new Run().draft(new Doc(new int[120])).tells(Call.cut(120), 1).due(Call.length(), 120);
    }

    static void whatWasCutDoesNotComeBack() {
        three().does(Call.cut(1)).declines(Call.cut(3)).does(Call.put(5, 1)).hasDraft(7, 5);
    }

    // "False, changing nothing, when n is negative"
    static void nBelowZeroIsRefused() {
        three().declines(Call.cut(-1)).declines(Call.cut(Integer.MIN_VALUE));
        new Run().declines(Call.cut(-1));
    }

    // "or it has not so many"
    static void oneMoreThanItHasIsRefused() {
        three().declines(Call.cut(4));
        new Run().declines(Call.cut(1));
        new Run().draft(new Doc(new int[120])).declines(Call.cut(121));
    }

    static void farMoreThanItHasIsRefused() {
        three().declines(Call.cut(120)).declines(Call.cut(Integer.MAX_VALUE));
    }

    private Promise03CutTest() {
    }
}
