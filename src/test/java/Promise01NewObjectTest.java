/** Promise 1: "No draft, nothing trusted, nothing installed." */
public final class Promise01NewObjectTest {
    public static void main(String[] args) {
        Cases.run(Promise01NewObjectTest.class);
    }

    static void hasNoDraft() {
        new Run().due(Call.length(), 0).refuses(IndexOutOfBoundsException.class, Call.at(0));
    }

    static void trustsNothing() {
        new Run().trustsNone(0, 1, 2, 3, 4, 5, 6);
    }

    static void hasNothingInstalled() {
        new Run().due(Call.installed(), 0);
    }

    static void hasVisitedNothing() {
        new Run().due(Call.visits(), 0);
    }

    // "THE CLIENT has a CLOCK, at first 0"
    static void itsClockIsZero() {
        new Run().due(Call.tick(0), 0);
    }

    static void itsContentIsEmpty() {
        new Run().does(Call.digest()).hasDraft(0, 0, 0, 0);
    }

    static void theEmptyDraftIsMalformed() {
        new Run().refuses(IllegalArgumentException.class, Call.begin())
                .refuses(IllegalArgumentException.class, Call.offer())
                .refuses(IllegalArgumentException.class, Call.sign(0));
    }

    static void nothingCanBeSoughtOrInstalled() {
        new Run().refuses(IllegalStateException.class, Call.seek("a"))
                .refuses(IllegalStateException.class, Call.install("a"));
    }

    static void sharesNothingWithAnother() {
        Run one = new Run();
        Run.withEveryRole().takes(World.targets(1, new int[][] {Doc.targetOf("a")}, World.NO))
                .due(Call.install("a"), 3).due(Call.tick(7), 7);
        one.due(Call.length(), 0).trustsNone(0, 1, 2, 3, 4, 5, 6).due(Call.tick(0), 0).due(Call.installed(), 0);
    }

    private Promise01NewObjectTest() {
    }
}
