/** A client with TARGETS and DELEGATES: each of these is signed by the key of its role's number, the TARGETS by 3. */
final class Net {
    static final int END = World.END;

    final Run run;

    Net() {
        run = Run.withEveryRole();
    }

    Net(Run run) {
        this.run = run;
    }

    static int[][] names(String... names) {
        int[][] targets = new int[names.length][];
        for (int i = 0; i < names.length; i++) {
            targets[i] = Doc.targetOf(names[i]);
        }
        return targets;
    }

    /** To a role, with the key of its number, for a prefix. */
    static int[] to(int role, String prefix) {
        return Doc.delegation(role, 0, Doc.keys(1, role), prefix);
    }

    static int[] finallyTo(int role, String prefix) {
        return Doc.delegation(role, 1, Doc.keys(1, role), prefix);
    }

    static Doc document(int role, int[][] targets, int[]... delegations) {
        return Doc.targets(role, 1, END, targets, delegations).signed(role);
    }

    /** The role has these targets, each of no bytes, and these delegations. */
    Net role(int role, int[][] targets, int[]... delegations) {
        run.takes(document(role, targets, delegations));
        return this;
    }

    Net finds(String name, int role, int visits) {
        run.finds(name, role, visits);
        return this;
    }

    Net missing(String name, int visits) {
        return finds(name, TrustedUpdates.NONE, visits);
    }
}
