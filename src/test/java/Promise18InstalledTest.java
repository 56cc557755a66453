import java.util.NoSuchElementException;

/** Promise 18: installed. */
public final class Promise18InstalledTest {
    public static void main(String[] args) {
        Cases.run(Promise18InstalledTest.class);
    }

    private static Run client() {
        return new Net().role(3, Net.names("a", "b")).run;
    }

    static void isZeroBeforeTheFirst() {
        new Run().tells(Call.installed(), 0);
        client().due(Call.installed(), 0);
    }

    static void countsEachInstall() {
        client().due(Call.install("a"), 3).due(Call.installed(), 1).due(Call.install("b"), 3).due(Call.installed(), 2);
    }

    // "(one name again, too)"
    static void countsOneNameAgain() {
        client().due(Call.install("a"), 3).due(Call.install("a"), 3).due(Call.install("a"), 3).due(Call.installed(), 3);
    }

    static void doesNotCountASeek() {
        client().finds("a", 3, 1).due(Call.installed(), 0);
    }

    static void doesNotCountWhatIsRefused() {
        client().due(Call.install("a"), 3).refuses(NoSuchElementException.class, Call.install("c"))
                .refuses(IllegalArgumentException.class, Call.install('A', 1)).keeps(1)
                .refuses(UnsupportedOperationException.class, Call.install("a")).due(Call.tick(10000), 10000)
                .refuses(IllegalStateException.class, Call.install("a")).due(Call.installed(), 1);
    }

    static void staysWithANewBeginning() {
        client().due(Call.install("a"), 3).begins(World.ROOT.signed()).due(Call.installed(), 1);
    }

    private Promise18InstalledTest() {
    }
}
