/** Promise 13 for every role but ROOT. */
public final class OfferTest {
    private static final Checks CHECKS = new Checks();
    private static final int END = World.END;

    public static void main(String[] args) {
        groundOfAll();
        groundHasEnded();
        stampSigned();
        stampVersions();
        stampEnds();
        stampIsForgottenWithItsVersions();
        snapshotIsAsStamped();
        snapshotVersions();
        snapshotSignedAndEnds();
        targets();
        delegates();
        roleNotInSnapshot();
        order();
        CHECKS.finish("OfferTest");
    }

    private static void refused(String what, Class<? extends RuntimeException> want, TrustedUpdates x, Doc doc) {
        doc.draftIn(x);
        CHECKS.refusedUnless(false, what, want, x);
    }

    private static void taken(String what, TrustedUpdates x, Doc doc) {
        doc.draftIn(x);
        CHECKS.refusedUnless(true, what, RuntimeException.class, x);
    }

    private static Doc stamp(int version, int snapshotVersion) {
        return Doc.stamp(version, END, snapshotVersion, 0).signed(1);
    }

    private static Doc[] oneOfEach() {
        return new Doc[] {stamp(1, 1), World.snapshot(1, 3, 1), World.empty(3, 1, END).signed(3),
            World.empty(4, 1, END).signed()};
    }

    private static void groundOfAll() {
        TrustedUpdates x = new TrustedUpdates();
        for (Doc doc : oneOfEach()) {
            refused("no root, role " + doc.bytes[0], IndexOutOfBoundsException.class, x, doc);
        }
        World world = new World();
        for (Doc doc : oneOfEach()) {
            if (doc.bytes[0] != 1) {
                refused("no stamp, role " + doc.bytes[0], IndexOutOfBoundsException.class, world.x, doc);
            }
        }
        taken("the stamp", world.x, stamp(1, 1));
        refused("no snapshot, targets", IndexOutOfBoundsException.class, world.x, World.empty(3, 1, END).signed(3));
        refused("no snapshot, a delegate", IndexOutOfBoundsException.class, world.x, World.empty(4, 1, END).signed(4));
    }

    /** Each end in its turn: a document lives at the last tick before its end, and not at it. */
    private static void groundHasEnded() {
        TrustedUpdates x = new TrustedUpdates();
        World.root(1, 40).signed().beginIn(x);
        Doc snapshot = Doc.snapshot(1, 30, 3, 1, 4, 1).signed(2);
        taken("a stamp", x, Doc.stampFor(1, 20, snapshot).signed(1));
        x.tick(19);
        taken("a snapshot, the stamp lives", x, snapshot);
        x.tick(1);
        refused("a snapshot, the stamp has ended", IndexOutOfBoundsException.class, x, snapshot);
        taken("targets, the stamp has ended", x, World.empty(3, 1, END).signed(3));
        x.tick(9);
        taken("a delegate, the snapshot lives", x, World.empty(4, 1, END).signed());
        x.tick(1);
        refused("targets, the snapshot has ended", IndexOutOfBoundsException.class, x, World.empty(3, 1, END).signed(3));
        refused("a delegate, the snapshot has ended", IndexOutOfBoundsException.class, x, World.empty(4, 1, END).signed());
        x.tick(9);
        Doc later = Doc.snapshot(1, 90, 3, 1, 4, 1).signed(2);
        taken("a stamp, the root lives", x, Doc.stampFor(1, 90, later).signed(1));
        taken("a later snapshot", x, later);
        x.tick(1);
        for (Doc doc : new Doc[] {Doc.stampFor(2, 90, later).signed(1), later, World.empty(3, 1, END).signed(3),
            World.empty(4, 1, END).signed()}) {
            refused("the root has ended, role " + doc.bytes[0], IndexOutOfBoundsException.class, x, doc);
        }
    }

    private static void stampSigned() {
        Doc part = Doc.stamp(1, END, 1, 0);
        Class<IllegalStateException> unsigned = IllegalStateException.class;
        World world = new World();
        refused("a stamp, no signature", unsigned, world.x, part.signed());
        refused("a stamp, other keys", unsigned, world.x, part.signed(0, 2, 3, 4, 5, 6));
        refused("a stamp, changed", unsigned, world.x, part.signed(1).altered(8, 1));
        taken("a stamp, one of several", world.x, part.signed(0, 2, 1));
        int[] one = Doc.keys(1, 0);
        Doc.root(1, END, one, Doc.keys(2, 4, 5, 9), one, one).signed().beginIn(world.x);
        refused("one of two", unsigned, world.x, part.signed(4));
        refused("one of two twice", unsigned, world.x, part.signed(9, 9));
        refused("one of two and others", unsigned, world.x, part.signed(9, 0, 1, 2));
        taken("two of two", world.x, part.signed(9, 4));
        taken("three of two", world.x, part.signed(9, 4, 5));
    }

    private static void stampVersions() {
        Class<UnsupportedOperationException> older = UnsupportedOperationException.class;
        TrustedUpdates x = new World().x;
        taken("the first stamp may have any version", x, stamp(5, 7));
        taken("the same stamp again", x, stamp(5, 7));
        refused("an older stamp", older, x, stamp(4, 7));
        refused("an older stamp, a newer snapshot", older, x, stamp(4, 8));
        refused("an older snapshot", older, x, stamp(5, 6));
        refused("a newer stamp, an older snapshot", older, x, stamp(6, 6));
        taken("the same version, a newer snapshot", x, stamp(5, 9));
        taken("a newer one", x, stamp(200, 9));
        taken("a much newer one", x, stamp(255, 255));
        refused("1 after 255", older, x, stamp(1, 255));
        taken("another digest", x, Doc.stamp(255, END, 255, 12).signed(1));
        taken("an earlier end", x, Doc.stamp(255, 5, 255, 12).signed(1));
    }

    private static void stampEnds() {
        TrustedUpdates x = new World().x;
        refused("a stamp that ended at 0", java.util.NoSuchElementException.class, x, Doc.stamp(1, 0, 1, 0).signed(1));
        x.tick(300);
        refused("a stamp that ends now", java.util.NoSuchElementException.class, x, Doc.stamp(1, 300, 1, 0).signed(1));
        taken("a stamp that ends next", x, Doc.stamp(1, 301, 1, 0).signed(1));
        taken("stamp 2", x, Doc.stamp(2, 310, 2, 0).signed(1));
        x.tick(100);
        refused("an older one after an ended one", UnsupportedOperationException.class, x, stamp(1, 2));
        refused("an older snapshot after an ended one", UnsupportedOperationException.class, x, stamp(3, 1));
        taken("a newer one after an ended one", x, stamp(3, 2));
    }

    private static void stampIsForgottenWithItsVersions() {
        TrustedUpdates x = new World().x;
        taken("stamp 9", x, stamp(9, 9));
        taken("a root with another key for it", x,
                Doc.root(2, END, Doc.keys(1, 0), Doc.keys(1, 5), Doc.keys(1, 2), Doc.keys(1, 3)).signed(0));
        taken("stamp 1 of the new key", x, Doc.stamp(1, END, 1, 0).signed(5));
        refused("stamp 9 of the old key", IllegalStateException.class, x, stamp(9, 9));
    }

    private static void snapshotIsAsStamped() {
        Class<UnsupportedOperationException> other = UnsupportedOperationException.class;
        World world = new World();
        Doc snapshot = World.snapshot(4, 3, 1);
        taken("the stamp", world.x, Doc.stampFor(1, END, snapshot).signed(1));
        refused("another version", other, world.x, World.snapshot(3, 3, 1));
        refused("another version", other, world.x, World.snapshot(5, 3, 1));
        refused("other entries", other, world.x, World.snapshot(4, 3, 2));
        refused("one more signature", other, world.x, Doc.snapshot(4, END, 3, 1).signed(2, 2));
        taken("what the stamp says", world.x, snapshot);
        taken("again", world.x, snapshot);
        Doc next = World.snapshot(5, 3, 1);
        taken("a stamp with the digest, not the version", world.x, Doc.stamp(2, END, 6, next.digest()).signed(1));
        refused("the digest, not the version", other, world.x, next);
        CHECKS.due("the snapshot stays", world.x.trusted(2, false), 4);
        taken("a stamp with the version, not the digest", world.x, Doc.stamp(2, END, 6, next.digest() + 1).signed(1));
        refused("the version, not the digest", other, world.x, World.snapshot(6, 3, 1));
    }

    private static void snapshotVersions() {
        int[][] wrong = {{3, 4, 4, 3, 6, 2}, {3, 5, 4, 2, 6, 2}, {3, 5, 4, 3, 6, 1}, {3, 5, 4, 3}, {3, 5, 4, 3, 5, 9},
            {3, 5}, {3, 255, 6, 2}};
        int[][] right = {{3, 5, 4, 3, 6, 2}, {3, 6, 4, 3, 6, 2}, {3, 5, 4, 255, 6, 2}, {3, 5, 4, 3, 5, 1, 6, 9}};
        for (int i = 0; i < wrong.length + right.length; i++) {
            boolean fits = i >= wrong.length;
            Doc next = World.snapshot(8, fits ? right[i - wrong.length] : wrong[i]);
            World world = new World();
            world.offerSnapshot(1, END, World.snapshot(7, 3, 5, 4, 3, 6, 2));
            Doc.stampFor(1, END, next).signed(1).offerTo(world.x);
            next.draftIn(world.x);
            CHECKS.refusedUnless(fits, "snapshot " + i, UnsupportedOperationException.class, world.x);
        }
    }

    private static void snapshotSignedAndEnds() {
        World world = new World();
        Doc part = Doc.snapshot(1, 50, 3, 1);
        for (int[] signers : new int[][] {{}, {1}, {0, 1, 3}}) {
            Doc snapshot = part.signed(signers);
            Doc.stampFor(1, END, snapshot).signed(1).offerTo(world.x);
            refused("a snapshot of others", IllegalStateException.class, world.x, snapshot);
        }
        Doc snapshot = part.signed(2);
        Doc.stampFor(1, END, snapshot).signed(1).offerTo(world.x);
        world.x.tick(49);
        taken("a snapshot that ends next", world.x, snapshot);
        world.x.tick(1);
        refused("a snapshot that ends now", java.util.NoSuchElementException.class, world.x, snapshot);
        CHECKS.due("the trusted one stays", world.x.trusted(2, false), 1);
    }

    private static void targets() {
        World world = new World();
        world.offerSnapshot(1, END, World.snapshot(1, 3, 4, 5, 2));
        TrustedUpdates x = world.x;
        for (int version : new int[] {1, 3, 5, 255}) {
            refused("targets " + version, UnsupportedOperationException.class, x, World.empty(3, version, END).signed(3));
        }
        refused("targets not signed", IllegalStateException.class, x, World.empty(3, 4, END).signed());
        refused("targets of others", IllegalStateException.class, x, World.empty(3, 4, END).signed(0, 1, 2, 4));
        refused("ended targets", java.util.NoSuchElementException.class, x, World.empty(3, 4, 0).signed(3));
        taken("targets 4", x, World.empty(3, 4, END).signed(3));
        taken("others of the version", x, World.targets(4, new int[][] {Doc.targetOf("a", 1)}, World.NO));
        x.tick(10);
        refused("targets that end now", java.util.NoSuchElementException.class, x, World.empty(3, 4, 10).signed(3));
        taken("targets that end next", x, World.empty(3, 4, 11).signed(3));
        x.tick(50);
        taken("targets in place of ended ones", x, World.empty(3, 4, 70).signed(3));
    }

    private static void delegates() {
        World world = new World();
        world.offerSnapshot(1, END, World.snapshot(1, 3, 4, 5, 2));
        TrustedUpdates x = world.x;
        taken("a delegate not signed", x, World.empty(5, 2, END).signed());
        taken("a delegate signed wrongly", x, World.empty(5, 2, END).with(1, 7, 0, 0, 0, 0));
        refused("another version", UnsupportedOperationException.class, x, World.empty(5, 4, END).signed());
        refused("another version", UnsupportedOperationException.class, x, World.empty(5, 1, END).signed());
        refused("an ended delegate", java.util.NoSuchElementException.class, x, World.empty(5, 2, 0).signed(5));
        x.tick(7);
        refused("a delegate that ends now", java.util.NoSuchElementException.class, x, World.empty(5, 2, 7).signed(5));
        taken("a delegate that ends next", x, World.empty(5, 2, 8).signed(5));
    }

    private static void roleNotInSnapshot() {
        World world = World.withSnapshot(3, 5);
        for (int role : new int[] {4, 6}) {
            refused("role " + role, IndexOutOfBoundsException.class, world.x, World.empty(role, 1, END).signed());
            refused("role " + role + ", ended", IndexOutOfBoundsException.class, world.x, World.empty(role, 1, 0).signed());
        }
        taken("role 5", world.x, World.empty(5, 1, END).signed());
        Doc more = World.snapshot(2, 3, 1, 4, 1, 5, 1);
        world.offerSnapshot(2, END, more);
        taken("role 4 then", world.x, World.empty(4, 1, END).signed());
    }

    private static void order() {
        World world = World.withSnapshot(3);
        TrustedUpdates x = world.x;
        refused("malformed before all", IllegalArgumentException.class, x, World.empty(4, 1, 0));
        refused("not signed, wrong version, ended", IllegalStateException.class, x, World.empty(3, 9, 0).signed());
        refused("wrong version, ended", UnsupportedOperationException.class, x, World.empty(3, 9, 0).signed(3));
        refused("a stamp not signed, ended", IllegalStateException.class, x, Doc.stamp(1, 0, 1, 0).signed(2));
        world.offerSnapshot(2, END, World.snapshot(2, 3, 1));
        refused("an older stamp, ended", UnsupportedOperationException.class, x, Doc.stamp(1, 0, 1, 0).signed(1));
        refused("a snapshot not signed, not stamped", IllegalStateException.class, x, Doc.snapshot(1, 0, 3, 1).signed());
        refused("a snapshot not stamped, ended", UnsupportedOperationException.class, x, Doc.snapshot(1, 0, 3, 1).signed(2));
        refused("a root not signed, wrong version", IllegalStateException.class, x, World.root(9, 0).signed(1));
        x.tick(END);
        refused("all ended, not signed", IndexOutOfBoundsException.class, x, World.empty(3, 9, 0).signed());
        refused("all ended, malformed", IllegalArgumentException.class, x, World.empty(3, 0, 0).signed());
    }

    private OfferTest() {
    }
}
