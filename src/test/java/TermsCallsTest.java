/** "An object is used for at most 512 calls after it has been made": each of them answers as promised. */
public final class TermsCallsTest {
    public static void main(String[] args) {
        Cases.run(TermsCallsTest.class);
    }

    static void the512thTickStillCounts() {
        Run run = new Run();
        for (int i = 1; i <= Run.LIMIT; i++) {
            run.due(Call.tick(10000), 10000L * i);
        }
    }

    static void the512thInstallStillCounts() {
        Run run = Run.withEveryRole().takes(World.targets(1, new int[][] {Doc.targetOf("a")}, World.NO));
        int count = Run.LIMIT - 1 - run.size();
        for (int i = 0; i < count; i++) {
            run.due(Call.install("a"), 3);
        }
        run.due(Call.installed(), count);
    }

    static void the512thOfferStillCounts() {
        Run run = Run.withRoot().draft(World.stampOf(1, World.snapshot(1, 3, 1)));
        while (run.size() < Run.LIMIT) {
            run.due(Call.offer(), 1);
        }
    }

    static void the512thSignIsStillRefused() {
        Run run = new Run().draft(World.ROOT.signed(0, 1, 2, 3, 4, 5));
        while (run.size() < Run.LIMIT) {
            String answer = run.answer(Call.sign(0));
            if (!answer.equals(Call.thrown(UnsupportedOperationException.class))) {
                throw new AssertionError("call " + run.size() + " answered " + answer);
            }
        }
    }

    private TermsCallsTest() {
    }
}
