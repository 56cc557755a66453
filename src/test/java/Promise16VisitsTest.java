import java.util.NoSuchElementException;

/** Promise 16: visits. */
public final class Promise16VisitsTest {
    public static void main(String[] args) {
        Cases.run(Promise16VisitsTest.class);
    }

    /** The name a is found in one visit, ab in three; abc is in none of the three; b has another content. */
    private static Run client() {
        int[][] others = {Doc.targetOf("a"), Doc.target("b", 1, 1)};
        return new Net().role(3, others, Net.to(4, "a")).role(4, World.NO, Net.to(5, "ab")).role(5, Net.names("ab"))
                .run;
    }

    static void areNoneBeforeTheFirstSeek() {
        client().tells(Call.visits(), 0);
        new Run().refuses(IllegalStateException.class, Call.seek("a")).due(Call.visits(), 0);
    }

    static void areOneWhenTargetsHaveIt() {
        client().finds("a", 3, 1);
    }

    static void areThoseOfASeekThatFindsNothing() {
        client().finds("abc", TrustedUpdates.NONE, 3).finds("c", TrustedUpdates.NONE, 1);
    }

    static void areAtMostTheFourRoles() {
        int[] any = Doc.keys(1, 4, 5, 6);
        int[][] all = {Doc.delegation(4, 0, any, ""), Doc.delegation(5, 0, any, ""), Doc.delegation(6, 0, any, "")};
        new Net().role(3, World.NO, all).role(4, World.NO, all).role(5, World.NO, all).role(6, World.NO, all)
                .missing("a", 4);
    }

    static void areThoseOfTheLatestSeek() {
        client().finds("ab", 5, 3).finds("a", 3, 1).finds("ab", 5, 3);
    }

    static void areThoseOfTheLatestInstall() {
        client().finds("a", 3, 1).due(Call.install("ab"), 5).due(Call.visits(), 3).due(Call.install("a"), 3)
                .due(Call.visits(), 1);
    }

    // "that did not throw"
    static void stayWhenSeekIsGivenNoName() {
        client().finds("ab", 5, 3).refuses(IllegalArgumentException.class, Call.seek('A', 1)).due(Call.visits(), 3);
    }

    static void stayWhenSeekIsRefused() {
        client().finds("ab", 5, 3).due(Call.tick(10000), 10000).refuses(IllegalStateException.class, Call.seek("a"))
                .due(Call.visits(), 3);
    }

    static void stayWhenInstallIsGivenNoName() {
        client().finds("ab", 5, 3).refuses(IllegalArgumentException.class, Call.install('a', 5)).due(Call.visits(), 3);
    }

    static void stayWhenInstallIsRefused() {
        client().finds("ab", 5, 3).due(Call.tick(10000), 10000).refuses(IllegalStateException.class, Call.install("a"))
                .due(Call.visits(), 3);
    }

    static void stayWhenInstallFindsNothing() {
        client().finds("a", 3, 1).refuses(NoSuchElementException.class, Call.install("abc")).due(Call.visits(), 1);
    }

    static void stayWhenInstallHasOtherContent() {
        client().finds("ab", 5, 3).refuses(UnsupportedOperationException.class, Call.install("b"))
                .due(Call.visits(), 3);
    }

    static void stayWithAllOtherCalls() {
        client().finds("ab", 5, 3).due(Call.tick(1), 1).draft(World.ROOT.signed()).due(Call.content(), 17)
                .due(Call.begin(), 0).due(Call.visits(), 3);
    }

    private Promise16VisitsTest() {
    }
}
