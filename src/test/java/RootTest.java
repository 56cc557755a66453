/** Promises 11, 12, 14, and 13 for a ROOT. */
public final class RootTest {
    private static final Checks CHECKS = new Checks();
    private static final int[] K0 = Doc.keys(1, 0);
    private static final int[] K1 = Doc.keys(1, 1);
    private static final int[] K2 = Doc.keys(1, 2);
    private static final int[] K3 = Doc.keys(1, 3);

    public static void main(String[] args) {
        ticks();
        begins();
        beginForgetsTheRest();
        trusts();
        needsARoot();
        versionIsOneMore();
        signedByOldAndNew();
        thresholds();
        mayHaveEnded();
        changedKeys();
        CHECKS.finish("RootTest");
    }

    private static void ticks() {
        TrustedUpdates x = new TrustedUpdates();
        CHECKS.due("tick(0)", x.tick(0), 0);
        CHECKS.due("tick(5)", x.tick(5), 5);
        CHECKS.due("tick(10000)", x.tick(10000), 10005);
        for (int n : new int[] {-1, 10001, Integer.MIN_VALUE, Integer.MAX_VALUE}) {
            CHECKS.refused("tick(" + n + ")", IllegalArgumentException.class, x, () -> x.tick(n));
        }
        for (int i = 0; i < 7; i++) {
            x.tick(10000);
        }
        CHECKS.due("the clock goes past every end", x.tick(0), 80005);
    }

    private static void begins() {
        TrustedUpdates x = new TrustedUpdates();
        World.root(7, 300).signed().beginIn(x);
        CHECKS.due("version of an unsigned root", x.trusted(0, false), 7);
        CHECKS.due("end of an unsigned root", x.trusted(0, true), 300);
        CHECKS.due("the draft stays", x.length(), 17);
        World.root(3, 0).with(1, 9, 1, 1, 1, 1).beginIn(x);
        CHECKS.due("version of an older, ended, wrongly signed root", x.trusted(0, false), 3);
        CHECKS.due("its end", x.trusted(0, true), 0);
        Doc[] others = {Doc.stamp(1, 9, 1, 1), Doc.snapshot(1, 9, 3, 1), World.empty(3, 1, 9), World.empty(4, 1, 9)};
        for (Doc other : others) {
            other.signed(0).draftIn(x);
            CHECKS.refused("begin with role " + other.bytes[0], IllegalArgumentException.class, x, () -> begin(x));
        }
        World.root(1, 9).draftIn(x);
        CHECKS.refused("begin without the number of signatures", IllegalArgumentException.class, x, () -> begin(x));
    }

    private static int begin(TrustedUpdates x) {
        x.begin();
        return 0;
    }

    private static World full() {
        World world = World.withSnapshot(3, 4, 5, 6);
        World.targets(1, new int[][] {Doc.targetOf("a")}, World.NO).offerTo(world.x);
        for (int role = 4; role <= 6; role++) {
            World.empty(role, 1, 500 + role).signed().offerTo(world.x);
        }
        return world;
    }

    private static void beginForgetsTheRest() {
        World world = full();
        TrustedUpdates x = world.x;
        CHECKS.due("install", world.install("a"), 3);
        x.tick(17);
        World.ROOT.signed(0).beginIn(x);
        CHECKS.due("trusted(0)", x.trusted(0, false), 1);
        for (int role = 1; role <= 6; role++) {
            CHECKS.due("version after begin() of " + role, x.trusted(role, false), TrustedUpdates.NONE);
            CHECKS.due("end after begin() of " + role, x.trusted(role, true), TrustedUpdates.NONE);
        }
        CHECKS.due("the clock stays", x.tick(0), 17);
        CHECKS.due("installed() stays", x.installed(), 1);
        CHECKS.due("visits() stays", x.visits(), 1);
        CHECKS.refused("seek after begin()", IllegalStateException.class, x, () -> world.seek("a"));
        Doc.stamp(1, 500, 1, 0).signed(1).offerTo(x);
        Doc.snapshot(1, 500, 3, 1).signed(2).draftIn(x);
        CHECKS.refused("another snapshot", UnsupportedOperationException.class, x, x::offer);
    }

    private static void trusts() {
        TrustedUpdates x = full().x;
        for (int role = 0; role <= 6; role++) {
            CHECKS.due("trusted(" + role + ", false)", x.trusted(role, false), 1);
            CHECKS.due("trusted(" + role + ", true)", x.trusted(role, true), role < 4 ? World.END : 500 + role);
        }
        for (int role : new int[] {7, -1, 255, Integer.MIN_VALUE, Integer.MAX_VALUE}) {
            CHECKS.refused("trusted(" + role + ")", IndexOutOfBoundsException.class, x, () -> x.trusted(role, false));
            CHECKS.refused("trusted(" + role + ")", IndexOutOfBoundsException.class, x, () -> x.trusted(role, true));
        }
        x.tick(10000);
        CHECKS.due("trusted(5, false), ended", x.trusted(5, false), 1);
        CHECKS.due("trusted(5, true), ended", x.trusted(5, true), 505);
    }

    private static void needsARoot() {
        TrustedUpdates x = new TrustedUpdates();
        World.ROOT.signed(0).draftIn(x);
        CHECKS.refused("a root, none trusted", IndexOutOfBoundsException.class, x, x::offer);
    }

    private static void versionIsOneMore() {
        for (int version : new int[] {1, 2, 3, 5, 6, 255}) {
            TrustedUpdates x = new TrustedUpdates();
            World.root(4, 9).signed().beginIn(x);
            World.root(version, 9).signed(0).draftIn(x);
            CHECKS.refusedUnless(version == 5, "root " + version + " after 4", UnsupportedOperationException.class, x);
        }
        TrustedUpdates x = new TrustedUpdates();
        World.root(255, 9).signed().beginIn(x);
        for (int version : new int[] {1, 254, 255}) {
            World.root(version, 9).signed(0).draftIn(x);
            CHECKS.refused("root " + version + " after 255", UnsupportedOperationException.class, x, x::offer);
        }
        TrustedUpdates y = new TrustedUpdates();
        World.ROOT.signed().beginIn(y);
        for (int version = 2; version < 20; version++) {
            CHECKS.due("root " + version, World.root(version, 9).signed(0).offerTo(y), 0);
            CHECKS.due("its version", y.trusted(0, false), version);
        }
    }

    private static void signedByOldAndNew() {
        Doc next = Doc.root(2, 9, Doc.keys(1, 5), K1, K2, K3);
        offerNext("old and new", true, next.signed(0, 5));
        offerNext("new and old", true, next.signed(5, 0));
        offerNext("old alone", false, next.signed(0));
        offerNext("new alone", false, next.signed(5));
        offerNext("others", false, next.signed(1, 2, 3));
        offerNext("none", false, next.signed());
        Doc wrong = next.signed(0, 5);
        int last = wrong.bytes.length - 1;
        offerNext("a wrong signature", false, wrong.altered(last, wrong.bytes[last] ^ 1));
        offerNext("a signed part changed", false, wrong.altered(3, 10));
        Doc exchanged = wrong.altered(next.bytes.length + 1, 5).altered(next.bytes.length + 6, 0);
        offerNext("signatures under each other's key", false, exchanged);
        int right = Doc.mix(next.bytes, next.bytes.length, 1);
        Doc mended = next.with(3, 0, 0, 0, 0, 0, 5).with(Doc.word(Doc.mix(next.bytes, next.bytes.length, 6))).with(0)
                .with(Doc.word(right));
        offerNext("a wrong one and the right one of a key", true, mended);
        Doc version = Doc.root(3, 9, K0, K1, K2, K3);
        offerNext("not signed, not the version", false, version.signed(1));
    }

    private static void offerNext(String what, boolean taken, Doc next) {
        TrustedUpdates x = new TrustedUpdates();
        World.ROOT.signed().beginIn(x);
        next.draftIn(x);
        CHECKS.refusedUnless(taken, "signed by " + what, IllegalStateException.class, x);
    }

    private static void thresholds() {
        Doc first = Doc.root(1, 9, Doc.keys(2, 0, 1, 2), K1, K2, K3);
        Doc next = Doc.root(2, 9, Doc.keys(3, 2, 3, 4, 5), K1, K2, K3);
        int[][] enough = {{0, 1, 3, 4, 5}, {2, 0, 3, 4}, {1, 2, 5, 3}, {2, 3, 4, 1, 0, 5}};
        int[][] tooFew = {{2, 3, 4, 5}, {0, 1, 3, 4}, {0, 0, 3, 4, 5}, {2, 2, 3, 4, 5}, {0, 1, 2, 3, 3, 3}, {0, 1, 2}};
        for (int i = 0; i < enough.length + tooFew.length; i++) {
            boolean taken = i < enough.length;
            int[] signers = taken ? enough[i] : tooFew[i - enough.length];
            TrustedUpdates x = new TrustedUpdates();
            first.signed().beginIn(x);
            next.signed(signers).draftIn(x);
            CHECKS.refusedUnless(taken, "signers " + java.util.Arrays.toString(signers), IllegalStateException.class, x);
        }
    }

    private static void mayHaveEnded() {
        TrustedUpdates x = new TrustedUpdates();
        World.root(1, 5).signed().beginIn(x);
        x.tick(5);
        CHECKS.due("an ended root after an ended one", World.root(2, 3).signed(0).offerTo(x), 0);
        CHECKS.due("its end", x.trusted(0, true), 3);
        Doc.stamp(1, 100, 1, 0).signed(1).draftIn(x);
        CHECKS.refused("a stamp, the root has ended", IndexOutOfBoundsException.class, x, x::offer);
        CHECKS.due("a root that has not ended", World.root(3, 6).signed(0).offerTo(x), 0);
        CHECKS.due("a stamp then", Doc.stamp(1, 100, 1, 0).signed(1).offerTo(x), 1);
    }

    private static void changedKeys() {
        afterRoot("no change", false, Doc.root(2, 900, K0, K1, K2, K3));
        afterRoot("ROOT's keys", false, Doc.root(2, 900, Doc.keys(1, 0, 7), K1, K2, K3));
        afterRoot("TARGETS' keys", false, Doc.root(2, 900, K0, K1, K2, Doc.keys(1, 9)));
        afterRoot("TARGETS' threshold", false, Doc.root(2, 900, K0, K1, K2, Doc.keys(2, 3, 4)));
        afterRoot("STAMP's key", true, Doc.root(2, 900, K0, Doc.keys(1, 8), K2, K3));
        afterRoot("one more for STAMP", true, Doc.root(2, 900, K0, Doc.keys(1, 1, 2), K2, K3));
        afterRoot("SNAPSHOT's key", true, Doc.root(2, 900, K0, K1, Doc.keys(1, 8), K3));
        afterRoot("one more for SNAPSHOT", true, Doc.root(2, 900, K0, K1, Doc.keys(1, 2, 3), K3));
        afterRoot("exchanged keys", true, Doc.root(2, 900, K0, K2, K1, K3));
        thresholdAlone();
        fewerKeys();
        laterKeys();
    }

    private static void afterRoot(String what, boolean forgets, Doc next) {
        World world = full();
        CHECKS.due("root: " + what, next.signed(0).offerTo(world.x), 0);
        dueKept(what, forgets, world);
        if (!forgets) {
            CHECKS.due("seek after " + what, world.seek("a"), 3);
        } else {
            CHECKS.refused("seek after " + what, IllegalStateException.class, world.x, () -> world.seek("a"));
        }
    }

    private static void dueKept(String what, boolean forgets, World world) {
        for (int role = 1; role <= 6; role++) {
            int want = forgets && role <= 2 ? TrustedUpdates.NONE : 1;
            CHECKS.due(what + ": version of " + role, world.x.trusted(role, false), want);
        }
    }

    private static void thresholdAlone() {
        int[][] sets = {Doc.keys(1, 1, 2), Doc.keys(2, 1, 2)};
        for (int role = 1; role <= 2; role++) {
            World world = new World();
            Doc.root(1, 900, K0, sets[0], sets[0], K3).signed().beginIn(world.x);
            world.offerSnapshot(1, 900, World.snapshot(1, 3, 1));
            Doc next = Doc.root(2, 900, K0, sets[role == 1 ? 1 : 0], sets[role == 2 ? 1 : 0], K3);
            CHECKS.due("a threshold alone", next.signed(0).offerTo(world.x), 0);
            CHECKS.due("the stamp", world.x.trusted(1, false), TrustedUpdates.NONE);
            CHECKS.due("the snapshot", world.x.trusted(2, false), TrustedUpdates.NONE);
        }
    }

    /** Each key of a set counts, not only those that the threshold would ask for. */
    private static void laterKeys() {
        int[] before = Doc.keys(1, 1, 2, 4, 7);
        for (int[] after : new int[][] {before, Doc.keys(1, 1, 2, 4, 8), Doc.keys(1, 1, 2, 5, 7), Doc.keys(1, 1, 3, 4, 7)}) {
            for (int role = 1; role <= 2; role++) {
                World world = new World();
                Doc.root(1, 900, K0, before, before, K3).signed().beginIn(world.x);
                world.offerSnapshot(1, 900, World.snapshot(1, 3, 1));
                Doc next = Doc.root(2, 900, K0, role == 1 ? after : before, role == 2 ? after : before, K3);
                CHECKS.due("a later key", next.signed(0).offerTo(world.x), 0);
                CHECKS.due("the stamp", world.x.trusted(1, false), after == before ? 1 : TrustedUpdates.NONE);
                CHECKS.due("the snapshot", world.x.trusted(2, false), after == before ? 1 : TrustedUpdates.NONE);
            }
        }
    }

    /** A set that is the beginning of another one is not the same. */
    private static void fewerKeys() {
        World world = new World();
        Doc.root(1, 900, K0, Doc.keys(1, 1, 4), K2, K3).signed().beginIn(world.x);
        world.offerSnapshot(1, 900, World.snapshot(1, 3, 1));
        CHECKS.due("fewer keys", Doc.root(2, 900, K0, K1, K2, K3).signed(0).offerTo(world.x), 0);
        CHECKS.due("the stamp", world.x.trusted(1, false), TrustedUpdates.NONE);
        CHECKS.due("the snapshot", world.x.trusted(2, true), TrustedUpdates.NONE);
        Doc older = Doc.snapshot(1, 900, 3, 1).signed(2);
        CHECKS.due("a stamp anew", Doc.stampFor(1, 900, older).signed(1).offerTo(world.x), 1);
        CHECKS.due("a snapshot anew", older.offerTo(world.x), 2);
    }

    private RootTest() {
    }
}
