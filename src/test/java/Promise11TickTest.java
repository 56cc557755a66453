/** Promise 11: tick, and when a document has ended. */
public final class Promise11TickTest {
    public static void main(String[] args) {
        Cases.run(Promise11TickTest.class);
    }

    // "The clock goes on by n: what it is then."
    static void zeroChangesNothing() {
        new Run().due(Call.tick(5), 5).tells(Call.tick(0), 5);
    }

    static void oneIsOne() {
        new Run().due(Call.tick(1), 1).due(Call.tick(1), 2);
    }

    static void tenThousandIsTaken() {
        new Run().due(Call.tick(10000), 10000).due(Call.tick(10000), 20000);
    }

    static void goesPastEveryEnd() {
        Run run = new Run();
        for (int i = 1; i <= 7; i++) {
            run.due(Call.tick(10000), 10000 * i);
        }
    }

    // "IllegalArgumentException when n is not 0 .. 10000."
    static void belowZeroIsRefused() {
        new Run().due(Call.tick(5), 5).refuses(IllegalArgumentException.class, Call.tick(-1))
                .refuses(IllegalArgumentException.class, Call.tick(Integer.MIN_VALUE));
    }

    static void aboveTenThousandIsRefused() {
        new Run().due(Call.tick(5), 5).refuses(IllegalArgumentException.class, Call.tick(10001))
                .refuses(IllegalArgumentException.class, Call.tick(Integer.MAX_VALUE));
    }

    // "A document has ENDED when its end is not after the clock."
    static void aDocumentLivesAtTheTickBeforeItsEnd() {
        new Run().begins(World.root(1, 300).signed()).due(Call.tick(299), 299)
                .takes(Doc.stamp(1, 301, 1, 0).signed(1));
    }

    static void aDocumentHasEndedAtItsEnd() {
        new Run().begins(World.root(1, 300).signed()).due(Call.tick(300), 300)
                .refuses(IndexOutOfBoundsException.class, Doc.stamp(1, 301, 1, 0).signed(1));
    }

    static void aDocumentHasEndedBehindItsEnd() {
        new Run().begins(World.root(1, 300).signed()).due(Call.tick(301), 301)
                .refuses(IndexOutOfBoundsException.class, Doc.stamp(1, 302, 1, 0).signed(1));
    }

    static void anEndOfZeroHasEndedAtTheFirst() {
        new Run().begins(World.root(1, 0).signed())
                .refuses(IndexOutOfBoundsException.class, Doc.stamp(1, 9, 1, 0).signed(1));
    }

    static void anEndOfOneLivesAtTheFirst() {
        new Run().begins(World.root(1, 1).signed()).takes(Doc.stamp(1, 1, 1, 0).signed(1)).due(Call.tick(1), 1)
                .refuses(IndexOutOfBoundsException.class, Doc.stamp(1, 9, 1, 0).signed(1));
    }

    static void theLastEndLivesAt65534AndHasEndedAt65535() {
        Run run = new Run().begins(World.root(1, 65535).signed());
        for (int i = 0; i < 6; i++) {
            run.due(Call.tick(10000), 10000 * (i + 1));
        }
        run.due(Call.tick(5534), 65534).takes(Doc.stamp(1, 65535, 1, 0).signed(1)).due(Call.tick(1), 65535)
                .refuses(IndexOutOfBoundsException.class, Doc.stamp(1, 65535, 1, 0).signed(1));
    }

    static void anEndDoesNotComeBackWhenTheClockIsPast65536() {
        Run run = new Run().begins(World.root(1, 65535).signed());
        for (int i = 0; i < 6; i++) {
            run.due(Call.tick(10000), 10000 * (i + 1));
        }
        run.due(Call.tick(6000), 66000).refuses(IndexOutOfBoundsException.class, Doc.stamp(1, 65535, 1, 0).signed(1));
    }

    private Promise11TickTest() {
    }
}
