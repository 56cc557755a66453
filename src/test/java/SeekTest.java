/** Promises 15 and 16: seek and visits. */
public final class SeekTest {
    private static final Checks CHECKS = new Checks();
    private static final int NONE = TrustedUpdates.NONE;
    private static final int END = World.END;
    private static final int[] K4 = Doc.keys(1, 4);
    private static final int[] K5 = Doc.keys(1, 5);
    private static final int[] K6 = Doc.keys(1, 6);

    public static void main(String[] args) {
        findsNames();
        refusesWhatIsNoName();
        needsAllThatVouches();
        needsFreshTargets();
        stampAndSnapshotMayDiffer();
        prefixes();
        ownTargetsFirst();
        inOrder();
        finalEndsAll();
        finalThatIsSkipped();
        finalInTheDepth();
        noRoleTwice();
        freshDelegates();
        signedDelegates();
        aNewRootChangesNothing();
        visitsStayWhenItThrows();
        CHECKS.finish("SeekTest");
    }

    private static int[][] rows(int[]... rows) {
        return rows;
    }

    private static int[][] names(String... names) {
        int[][] targets = new int[names.length][];
        for (int i = 0; i < names.length; i++) {
            targets[i] = Doc.target(names[i], i, i);
        }
        return targets;
    }

    private static Doc delegate(int role, int[][] targets, int[][] delegations) {
        return Doc.targets(role, 1, END, targets, delegations).signed(role);
    }

    private static World all() {
        return World.withSnapshot(3, 4, 5, 6);
    }

    private static void due(World world, String name, int role, int visits) {
        CHECKS.due("seek " + name, world.seek(name), role);
        CHECKS.due("visits after seek " + name, world.x.visits(), visits);
    }

    private static void refused(String what, World world) {
        CHECKS.refused(what, IllegalStateException.class, world.x, () -> world.seek("a"));
    }

    private static void findsNames() {
        World world = all();
        World.targets(1, names("a", "ab", "zzzz", "abc"), World.NO).offerTo(world.x);
        for (String name : new String[] {"a", "ab", "zzzz", "abc"}) {
            due(world, name, 3, 1);
        }
        for (String name : new String[] {"b", "abcd", "z", "zzz", "ba", "aa", "ac", "c"}) {
            due(world, name, NONE, 1);
        }
        CHECKS.due("what stands above the name does not matter", world.x.seek(0x7FFF_0000_0000_6261L, 2), 3);
        CHECKS.due("nor here", world.x.seek(-1L << 8 | 'a', 1), 3);
        CHECKS.due("nor below the sign", world.x.seek(0xFFFFFFFF_7A7A7A7AL, 4), 3);
    }

    private static void refusesWhatIsNoName() {
        for (int n : new int[] {0, -1, 5, 8, 257, Integer.MIN_VALUE, Integer.MAX_VALUE}) {
            noName("n " + n, 0x6161616161616161L, n);
        }
        for (int letter : new int[] {0, 'A', 'Z', '`', '{', 128 + 'a', 255}) {
            noName("letter " + letter, letter, 1);
            noName("letter " + letter, letter << 8 | 'a', 2);
            noName("letter " + letter, (long) letter << 24 | 0x616161, 4);
            CHECKS.due("a letter behind the name", withA().x.seek(letter << 8 | 'a', 1), 3);
        }
        TrustedUpdates x = new TrustedUpdates();
        CHECKS.refused("no name, nothing trusted", IllegalArgumentException.class, x, () -> x.seek(0, 1));
        CHECKS.refused("nothing trusted", IllegalStateException.class, x, () -> x.seek('a', 1));
    }

    private static void noName(String what, long w, int n) {
        World world = withA();
        CHECKS.refused(what, IllegalArgumentException.class, world.x, () -> world.x.seek(w, n));
    }

    private static World withA() {
        World world = all();
        World.targets(1, names("a"), World.NO).offerTo(world.x);
        world.seek("a");
        return world;
    }

    private static void needsAllThatVouches() {
        int[][] ends = {{10, 90, 90, 90}, {90, 10, 90, 90}, {90, 90, 10, 90}, {90, 90, 90, 10}};
        for (int[] end : ends) {
            World world = new World();
            World.root(1, end[0]).signed().beginIn(world.x);
            refused("root alone", world);
            Doc snapshot = Doc.snapshot(1, end[2], 3, 1).signed(2);
            Doc.stampFor(1, end[1], snapshot).signed(1).offerTo(world.x);
            refused("root and stamp", world);
            snapshot.offerTo(world.x);
            refused("no targets", world);
            Doc.targets(3, 1, end[3], names("a"), World.NO).signed(3).offerTo(world.x);
            due(world, "a", 3, 1);
            world.x.tick(9);
            due(world, "a", 3, 1);
            world.x.tick(1);
            refused("one has ended: " + java.util.Arrays.toString(end), world);
        }
    }

    private static void needsFreshTargets() {
        World world = all();
        World.targets(1, names("a"), World.NO).offerTo(world.x);
        world.offerSnapshot(2, END, World.snapshot(2, 3, 2, 4, 1, 5, 1, 6, 1));
        CHECKS.due("the older targets are still trusted", world.x.trusted(3, false), 1);
        refused("targets are not fresh", world);
        World.targets(2, names("b"), World.NO).offerTo(world.x);
        due(world, "a", NONE, 1);
        due(world, "b", 3, 1);
    }

    /** A newer stamp alone takes nothing from the snapshot that is trusted. */
    private static void stampAndSnapshotMayDiffer() {
        World world = all();
        World.targets(1, names("a"), World.NO).offerTo(world.x);
        Doc.stamp(2, END, 9, 1).signed(1).offerTo(world.x);
        due(world, "a", 3, 1);
    }

    private static void prefixes() {
        World world = all();
        World.targets(1, World.NO, rows(Doc.delegation(4, 0, K4, "ab"), Doc.delegation(5, 0, K5, ""),
                Doc.delegation(6, 0, K6, "abc"))).offerTo(world.x);
        delegate(4, names("b", "ab", "abd", "xab"), World.NO).offerTo(world.x);
        delegate(5, names("c", "q"), World.NO).offerTo(world.x);
        delegate(6, names("abcd", "abc", "ax"), World.NO).offerTo(world.x);
        due(world, "ab", 4, 2);
        due(world, "abd", 4, 2);
        due(world, "b", NONE, 2);
        due(world, "a", NONE, 2);
        due(world, "xab", NONE, 2);
        due(world, "q", 5, 2);
        due(world, "abc", 6, 4);
        due(world, "abcd", 6, 4);
        due(world, "abx", NONE, 3);
        due(world, "abce", NONE, 4);
        due(world, "ax", NONE, 2);
    }

    private static void ownTargetsFirst() {
        World world = all();
        World.targets(1, names("a", "b"), rows(Doc.delegation(4, 1, K4, ""))).offerTo(world.x);
        delegate(4, names("a", "c"), World.NO).offerTo(world.x);
        due(world, "a", 3, 1);
        due(world, "c", 4, 2);
    }

    private static void inOrder() {
        World world = all();
        World.targets(1, World.NO, rows(Doc.delegation(6, 0, K6, ""), Doc.delegation(4, 0, K4, ""),
                Doc.delegation(5, 0, K5, ""))).offerTo(world.x);
        delegate(4, names("a", "b"), World.NO).offerTo(world.x);
        delegate(5, names("a", "c"), World.NO).offerTo(world.x);
        delegate(6, names("d"), World.NO).offerTo(world.x);
        due(world, "a", 4, 3);
        due(world, "b", 4, 3);
        due(world, "c", 5, 4);
        due(world, "d", 6, 2);
        due(world, "e", NONE, 4);
    }

    private static void finalEndsAll() {
        World world = all();
        World.targets(1, World.NO, rows(Doc.delegation(4, 0, K4, ""), Doc.delegation(5, 1, K5, "a"),
                Doc.delegation(6, 0, K6, ""))).offerTo(world.x);
        delegate(4, names("b"), World.NO).offerTo(world.x);
        delegate(5, names("ab"), World.NO).offerTo(world.x);
        delegate(6, names("ac", "c"), World.NO).offerTo(world.x);
        due(world, "ab", 5, 3);
        due(world, "ac", NONE, 3);
        due(world, "b", 4, 2);
        due(world, "c", 6, 3);
    }

    /** A final delegation that is not visited ends nothing. */
    private static void finalThatIsSkipped() {
        World world = all();
        World.targets(1, World.NO, rows(Doc.delegation(4, 1, K4, ""), Doc.delegation(5, 1, K6, ""),
                Doc.delegation(6, 0, K6, ""))).offerTo(world.x);
        delegate(5, names("a"), World.NO).offerTo(world.x);
        delegate(6, names("a"), World.NO).offerTo(world.x);
        due(world, "a", 6, 2);
        delegate(4, World.NO, World.NO).offerTo(world.x);
        due(world, "a", NONE, 2);
    }

    private static void finalInTheDepth() {
        World world = all();
        World.targets(1, World.NO, rows(Doc.delegation(4, 0, K4, ""), Doc.delegation(6, 0, K6, ""))).offerTo(world.x);
        delegate(4, World.NO, rows(Doc.delegation(5, 1, K5, "a"))).offerTo(world.x);
        delegate(5, names("aa"), World.NO).offerTo(world.x);
        delegate(6, names("ab", "b"), World.NO).offerTo(world.x);
        due(world, "aa", 5, 3);
        due(world, "ab", NONE, 3);
        due(world, "b", 6, 3);
    }

    private static void noRoleTwice() {
        World world = all();
        int[] any = Doc.keys(1, 4, 5, 6);
        int[][] everyone = rows(Doc.delegation(6, 0, any, ""), Doc.delegation(5, 0, any, ""), Doc.delegation(4, 0, any, ""));
        World.targets(1, World.NO, everyone).offerTo(world.x);
        for (int role = 4; role <= 6; role++) {
            delegate(role, role == 4 ? names("d") : World.NO, everyone).offerTo(world.x);
        }
        due(world, "d", 4, 4);
        due(world, "e", NONE, 4);
        int[][] itself = rows(Doc.delegation(6, 1, any, ""), Doc.delegation(5, 0, any, ""));
        delegate(6, World.NO, itself).offerTo(world.x);
        due(world, "d", 4, 4);
        delegate(5, World.NO, rows(Doc.delegation(6, 1, any, ""))).offerTo(world.x);
        due(world, "d", 4, 4);
        delegate(5, World.NO, rows(Doc.delegation(4, 1, any, ""))).offerTo(world.x);
        due(world, "d", 4, 4);
        due(world, "e", NONE, 4);
    }

    private static void freshDelegates() {
        World world = all();
        World.targets(1, World.NO, rows(Doc.delegation(4, 1, K4, ""), Doc.delegation(5, 0, K5, ""))).offerTo(world.x);
        due(world, "a", NONE, 1);
        Doc.targets(4, 1, 20, names("a"), World.NO).signed(4).offerTo(world.x);
        delegate(5, names("a"), World.NO).offerTo(world.x);
        due(world, "a", 4, 2);
        world.x.tick(19);
        due(world, "a", 4, 2);
        world.x.tick(1);
        due(world, "a", 5, 2);
        world.offerSnapshot(1, END, World.snapshot(2, 3, 1, 4, 1, 5, 2, 6, 1));
        due(world, "a", NONE, 1);
        Doc.targets(5, 2, END, names("a"), World.NO).signed(5).offerTo(world.x);
        due(world, "a", 5, 2);
        forgottenInANewSnapshot();
    }

    /** With other SNAPSHOT keys the first snapshot may lack a role whose document is still trusted. */
    private static void forgottenInANewSnapshot() {
        World world = all();
        World.targets(1, World.NO, rows(Doc.delegation(4, 0, K4, ""))).offerTo(world.x);
        delegate(4, names("a"), World.NO).offerTo(world.x);
        due(world, "a", 4, 2);
        Doc.root(2, END, Doc.keys(1, 0), Doc.keys(1, 1), Doc.keys(1, 9), Doc.keys(1, 3)).signed(0).offerTo(world.x);
        Doc snapshot = Doc.snapshot(1, END, 3, 1).signed(9);
        world.offerSnapshot(1, END, snapshot);
        CHECKS.due("role 4 is still trusted", world.x.trusted(4, false), 1);
        due(world, "a", NONE, 1);
    }

    private static void signedDelegates() {
        int[][] signers = {{}, {4}, {4, 4}, {4, 6}, {5, 4}, {7, 5}, {9, 8, 7, 6, 5, 4}};
        int[] found = {NONE, NONE, NONE, NONE, 4, 4, 4};
        for (int i = 0; i < signers.length; i++) {
            World world = all();
            World.targets(1, World.NO, rows(Doc.delegation(4, 1, Doc.keys(2, 4, 5, 7), "a"))).offerTo(world.x);
            Doc.targets(4, 1, END, names("a"), World.NO).signed(signers[i]).offerTo(world.x);
            due(world, "a", found[i], found[i] == NONE ? 1 : 2);
        }
        World world = all();
        World.targets(1, World.NO, rows(Doc.delegation(4, 0, K4, ""), Doc.delegation(5, 0, K5, ""))).offerTo(world.x);
        Doc.targets(4, 1, END, names("a"), World.NO).signed(6).offerTo(world.x);
        delegate(5, World.NO, rows(Doc.delegation(4, 0, K6, ""))).offerTo(world.x);
        due(world, "a", 4, 3);
    }

    private static void aNewRootChangesNothing() {
        World world = all();
        World.targets(1, names("a"), World.NO).offerTo(world.x);
        int[] other = Doc.keys(1, 9);
        Doc.root(2, END, other, Doc.keys(1, 1), Doc.keys(1, 2), other).signed(0, 9).offerTo(world.x);
        due(world, "a", 3, 1);
        World.targets(1, names("b"), World.NO).draftIn(world.x);
        CHECKS.refused("targets of the old key", IllegalStateException.class, world.x, world.x::offer);
    }

    private static void visitsStayWhenItThrows() {
        World world = all();
        World.targets(1, World.NO, rows(Doc.delegation(4, 0, K4, ""))).offerTo(world.x);
        delegate(4, names("a"), World.NO).offerTo(world.x);
        due(world, "a", 4, 2);
        CHECKS.refused("no name", IllegalArgumentException.class, world.x, () -> world.x.seek('A', 1));
        world.x.tick(END);
        refused("all has ended", world);
        CHECKS.due("visits()", world.x.visits(), 2);
    }

    private SeekTest() {
    }
}
