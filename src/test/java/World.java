/** A client with a root of one key a role: 0 for ROOT, 1 for STAMP, 2 for SNAPSHOT, 3 for TARGETS. */
final class World {
    static final int END = 1000;
    static final int[][] NO = new int[0][];
    static final Doc ROOT = root(1, END);

    final TrustedUpdates x = new TrustedUpdates();

    World() {
        ROOT.signed(0).beginIn(x);
    }

    static Doc root(int version, int end) {
        return Doc.root(version, end, Doc.keys(1, 0), Doc.keys(1, 1), Doc.keys(1, 2), Doc.keys(1, 3));
    }

    /** A stamp for the snapshot, signed, and then the snapshot. */
    void offerSnapshot(int stampVersion, int stampEnd, Doc snapshot) {
        Doc.stampFor(stampVersion, stampEnd, snapshot).signed(1).offerTo(x);
        snapshot.offerTo(x);
    }

    /** A signed stamp for a snapshot. */
    static Doc stampOf(int version, Doc snapshot) {
        return Doc.stampFor(version, END, snapshot).signed(1);
    }

    static Doc snapshot(int version, int... rolesAndVersions) {
        return Doc.snapshot(version, END, rolesAndVersions).signed(2);
    }

    static Doc targets(int version, int[][] targets, int[][] delegations) {
        return Doc.targets(3, version, END, targets, delegations).signed(3);
    }

    static Doc empty(int role, int version, int end) {
        return Doc.targets(role, version, end, NO, NO);
    }

    /** A client with stamp 1, snapshot 1 that says version 1 for these roles, and nothing for them yet. */
    static World withSnapshot(int... roles) {
        World world = new World();
        int[] entries = new int[2 * roles.length];
        for (int i = 0; i < roles.length; i++) {
            entries[2 * i] = roles[i];
            entries[2 * i + 1] = 1;
        }
        world.offerSnapshot(1, END, snapshot(1, entries));
        return world;
    }

    int seek(String name) {
        return x.seek(Doc.name(name), name.length());
    }

    int install(String name) {
        return x.install(Doc.name(name), name.length());
    }
}
