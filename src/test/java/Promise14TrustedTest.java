/** Promise 14: trusted. */
public final class Promise14TrustedTest {
    public static void main(String[] args) {
        Cases.run(Promise14TrustedTest.class);
    }

    /** Every role has a version and an end of its own. */
    private static Run trusting() {
        Doc snapshot = Doc.snapshot(12, 102, 3, 13, 4, 14, 5, 15, 6, 16).signed(2);
        Run run = new Run().begins(World.root(10, 100).signed()).takes(Doc.stampFor(11, 101, snapshot).signed(1))
                .takes(snapshot);
        for (int role = 3; role <= 6; role++) {
            run.takes(World.empty(role, 10 + role, 100 + role).signed(3));
        }
        return run;
    }

    // "The version of the trusted document of a role, or its end (ends)"
    static void everyRoleHasItsVersionAndItsEnd() {
        Run run = trusting();
        for (int role = 0; role <= 6; role++) {
            run.tells(Call.trusted(role, false), 10 + role).tells(Call.trusted(role, true), 100 + role);
        }
    }

    static void version255AndEnd65535() {
        new Run().begins(World.root(255, 65535).signed()).due(Call.trusted(0, false), 255)
                .due(Call.trusted(0, true), 65535);
    }

    static void anEndOfZeroIsNotNone() {
        new Run().begins(World.root(1, 0).signed()).due(Call.trusted(0, true), 0);
    }

    static void whatHasEndedIsStillToldOf() {
        Run run = trusting().due(Call.tick(10000), 10000);
        for (int role = 0; role <= 6; role++) {
            run.due(Call.trusted(role, false), 10 + role).due(Call.trusted(role, true), 100 + role);
        }
    }

    static void aRefusedDocumentIsNotToldOf() {
        trusting().refuses(UnsupportedOperationException.class, World.root(13, 500).signed(0))
                .due(Call.trusted(0, false), 10).due(Call.trusted(0, true), 100);
    }

    static void theDraftIsNotToldOf() {
        Run.withRoot().draft(World.root(7, 77).signed()).due(Call.trusted(0, false), 1)
                .due(Call.trusted(0, true), World.END);
    }

    static void theDraftCanBeAlteredAfterItIsTrusted() {
        new Run().begins(World.root(1, 300).signed()).does(Call.alter(1, 9), Call.alter(3, 0), Call.cut(1))
                .due(Call.trusted(0, false), 1).due(Call.trusted(0, true), 300);
    }

    // "NONE when there is none"
    static void noneWhenThereIsNone() {
        new Run().trustsNone(0, 1, 2, 3, 4, 5, 6);
        Run.withRoot().trusts(1, 0).trustsNone(1, 2, 3, 4, 5, 6);
    }

    static void noneWhenItIsNotTrustedAnyMore() {
        trusting().begins(World.root(1, 100).signed()).trustsNone(1, 2, 3, 4, 5, 6);
    }

    // "IndexOutOfBoundsException when there is no such role"
    static void role7IsRefused() {
        trusting().refuses(IndexOutOfBoundsException.class, Call.trusted(7, false))
                .refuses(IndexOutOfBoundsException.class, Call.trusted(7, true));
    }

    static void roleBelowZeroIsRefused() {
        trusting().refuses(IndexOutOfBoundsException.class, Call.trusted(-1, false))
                .refuses(IndexOutOfBoundsException.class, Call.trusted(-1, true))
                .refuses(IndexOutOfBoundsException.class, Call.trusted(Integer.MIN_VALUE, false));
    }

    static void roleFarAbove6IsRefused() {
        trusting().refuses(IndexOutOfBoundsException.class, Call.trusted(256, false))
                .refuses(IndexOutOfBoundsException.class, Call.trusted(Integer.MAX_VALUE, true));
        new Run().refuses(IndexOutOfBoundsException.class, Call.trusted(7, false));
    }

    private Promise14TrustedTest() {
    }
}
