/** The terms on a document's parts: what is malformed, for begin(), offer() and sign() alike. */
public final class MalformedTest {
    private static final Checks CHECKS = new Checks();
    private static final int[] SET = Doc.keys(1, 0);
    private static final int[][] NO = new int[0][];

    public static void main(String[] args) {
        heads();
        keySets();
        stamps();
        snapshots();
        targets();
        delegations();
        signatures();
        CHECKS.finish("MalformedTest");
    }

    private static void sound(String what, Doc signedPart) {
        TrustedUpdates x = new TrustedUpdates();
        signedPart.signed().draftIn(x);
        if (signedPart.bytes[0] == Doc.ROOT) {
            x.begin();
            CHECKS.due(what + ": its version", x.trusted(0, false), signedPart.bytes[1]);
            CHECKS.due(what + ": its end", x.trusted(0, true), signedPart.bytes[2] << 8 | signedPart.bytes[3]);
        } else {
            CHECKS.refused(what + ", no root", IndexOutOfBoundsException.class, x, x::offer);
            CHECKS.refused(what + ", begin", IllegalArgumentException.class, x, () -> begin(x));
        }
        CHECKS.due(what + ": sign", x.sign(3), 1);
        signedPart.draftIn(x);
        CHECKS.due(what + ": sign of the signed part", x.sign(3), 1);
        for (int size = 0; size < signedPart.bytes.length; size++) {
            refusedBy(what + ", the first " + size, signedPart.cut(size));
        }
        refusedBy(what + ", signed, and a byte more", signedPart.signed(1).with(0));
    }

    private static void malformed(String what, Doc signedPart) {
        refusedBy(what, signedPart);
        refusedBy(what + ", no signatures", signedPart.signed());
        refusedBy(what + ", signed", signedPart.signed(0, 1));
    }

    private static void refusedBy(String what, Doc doc) {
        TrustedUpdates x = new TrustedUpdates();
        doc.draftIn(x);
        CHECKS.refused(what + ": offer", IllegalArgumentException.class, x, x::offer);
        CHECKS.refused(what + ": begin", IllegalArgumentException.class, x, () -> begin(x));
        CHECKS.refused(what + ": sign", IllegalArgumentException.class, x, () -> x.sign(1));
    }

    private static int begin(TrustedUpdates x) {
        x.begin();
        return 0;
    }

    private static Doc root(int[] set) {
        return Doc.root(1, 9, set, SET, SET, SET);
    }

    private static void heads() {
        sound("a root", root(SET));
        sound("version 255, end 65535", Doc.root(255, 65535, SET, SET, SET, SET));
        sound("end 256", Doc.root(1, 256, SET, SET, SET, SET));
        sound("end 0", Doc.root(1, 0, SET, SET, SET, SET));
        malformed("a root, version 0", Doc.root(0, 9, SET, SET, SET, SET));
        malformed("a stamp, version 0", Doc.stamp(0, 9, 1, 1));
        malformed("a snapshot, version 0", Doc.snapshot(0, 9, 3, 1));
        malformed("targets, version 0", Doc.targets(3, 0, 9, NO, NO));
        malformed("a delegate, version 0", Doc.targets(5, 0, 9, NO, NO));
        for (int role : new int[] {7, 8, 128, 255}) {
            malformed("role " + role, Doc.targets(role, 1, 9, NO, NO));
            malformed("role " + role + ", a root's body", root(SET).altered(0, role));
        }
    }

    private static void keySets() {
        for (int place = 0; place < 4; place++) {
            for (boolean right : new boolean[] {true, false}) {
                int[][] sets = right
                        ? new int[][] {Doc.keys(1, 9), Doc.keys(4, 0, 1, 2, 3), Doc.keys(2, 0, 9), Doc.keys(1, 6, 7, 8, 9),
                            Doc.keys(3, 1, 5, 7)}
                        : new int[][] {Doc.keys(0, 1), Doc.keys(1), Doc.keys(0), Doc.keys(2, 1), Doc.keys(5, 1, 2, 3, 4),
                            Doc.keys(1, 0, 1, 2, 3, 4), Doc.keys(1, 10), Doc.keys(1, 255), Doc.keys(1, 8, 10),
                            Doc.keys(1, 1, 1), Doc.keys(1, 2, 1), Doc.keys(1, 0, 1, 1), Doc.keys(1, 0, 5, 3, 6),
                            Doc.keys(1, 9, 9), Doc.keys(255, 1), Doc.keys(5, 1, 2, 3, 4, 5)};
                for (int[] set : sets) {
                    checkKeySet(place, set, right);
                }
            }
        }
    }

    private static void checkKeySet(int place, int[] set, boolean right) {
        int[][] all = {SET, SET, SET, SET};
        all[place] = set;
        Doc doc = Doc.root(1, 9, all[0], all[1], all[2], all[3]);
        Doc delegating = Doc.targets(3, 1, 9, NO, new int[][] {Doc.delegation(4, 0, set, "")});
        String what = "key set " + place + " " + java.util.Arrays.toString(set);
        if (right) {
            sound(what, doc);
            sound("delegated " + what, delegating);
        } else {
            malformed(what, doc);
            malformed("delegated " + what, delegating);
        }
    }

    private static void stamps() {
        sound("a stamp", Doc.stamp(1, 9, 1, 0));
        sound("a stamp", Doc.stamp(7, 9, 255, -1));
        malformed("a stamp of snapshot 0", Doc.stamp(1, 9, 0, 5));
        malformed("a stamp with more", Doc.stamp(1, 9, 0, 5).with(7));
    }

    private static void snapshots() {
        sound("a snapshot of 3", Doc.snapshot(1, 9, 3, 1));
        sound("a snapshot of 3, 6", Doc.snapshot(1, 9, 3, 255, 6, 1));
        sound("a snapshot of 3, 4, 6", Doc.snapshot(1, 9, 3, 255, 4, 2, 6, 1));
        sound("a snapshot of 3 to 6", Doc.snapshot(1, 9, 3, 1, 4, 2, 5, 3, 6, 4));
        malformed("a snapshot of none", Doc.snapshot(1, 9));
        malformed("a snapshot of none, and one behind", Doc.snapshot(1, 9).with(3, 1));
        malformed("a snapshot without 3", Doc.snapshot(1, 9, 4, 1));
        malformed("a snapshot without 3", Doc.snapshot(1, 9, 4, 1, 5, 1));
        malformed("a snapshot of 2", Doc.snapshot(1, 9, 2, 1));
        malformed("a snapshot of 2, 3", Doc.snapshot(1, 9, 2, 1, 3, 1));
        malformed("a snapshot of 3, 7", Doc.snapshot(1, 9, 3, 1, 7, 1));
        malformed("a snapshot of 3, 3", Doc.snapshot(1, 9, 3, 1, 3, 1));
        malformed("a snapshot of 3, 5, 4", Doc.snapshot(1, 9, 3, 1, 5, 1, 4, 1));
        malformed("a snapshot of 3, 4, 4", Doc.snapshot(1, 9, 3, 1, 4, 1, 4, 1));
        malformed("a snapshot of 4, 3", Doc.snapshot(1, 9, 4, 1, 3, 1));
        malformed("a snapshot of five", Doc.snapshot(1, 9, 3, 1, 4, 2, 5, 3, 6, 4, 7, 5));
        malformed("a snapshot with version 0", Doc.snapshot(1, 9, 3, 0));
        malformed("a snapshot with version 0", Doc.snapshot(1, 9, 3, 1, 4, 0));
        malformed("a snapshot with version 0", Doc.snapshot(1, 9, 3, 1, 4, 1, 5, 1, 6, 0));
    }

    private static Doc holding(int... targets) {
        return Doc.head(3, 1, 9).with(targets);
    }

    private static void targets() {
        int[] a = Doc.target("a", 0, 0);
        int[] b = Doc.target("b", 255, -1);
        int[] ab = Doc.target("ab", 1, 1);
        int[] abcd = Doc.target("abcd", 1, 1);
        int[] az = Doc.target("az", 97, 0x61616161);
        for (int role = 3; role <= 6; role++) {
            sound("no targets", Doc.targets(role, 1, 9, NO, NO));
            sound("a target", Doc.targets(role, 1, 9, new int[][] {a}, NO));
            sound("four targets", Doc.targets(role, 1, 9, new int[][] {a, b, ab, abcd}, NO));
            sound("others", Doc.targets(role, 1, 9, new int[][] {abcd, az, ab}, NO));
            malformed("five targets", Doc.targets(role, 1, 9, new int[][] {a, b, ab, abcd, az}, NO));
            malformed("a name twice", Doc.targets(role, 1, 9, new int[][] {a, a}, NO));
            malformed("a name twice", Doc.targets(role, 1, 9, new int[][] {a, Doc.target("a", 1, 2)}, NO));
            malformed("a name twice", Doc.targets(role, 1, 9, new int[][] {ab, b, a, ab}, NO));
            malformed("a name twice", Doc.targets(role, 1, 9, new int[][] {b, abcd, abcd}, NO));
        }
        malformed("no letters", holding(1, 0, 1, 0, 0, 0, 0, 0));
        malformed("five letters", holding(Doc.join(new int[] {1}, Doc.target("abcde", 1, 1), new int[] {0})));
        for (int letter : new int[] {0, 'A', 'Z', 'a' - 1, 'z' + 1, 255}) {
            malformed("letter " + letter, holding(1, 1, letter, 1, 0, 0, 0, 0, 0));
            malformed("letter " + letter, holding(1, 3, 'a', 'z', letter, 1, 0, 0, 0, 0, 0));
        }
        malformed("255 targets", holding(255, 0));
    }

    private static void delegations() {
        int[] four = Doc.delegation(4, 0, SET, "");
        int[] five = Doc.delegation(5, 1, Doc.keys(2, 1, 3), "abc");
        int[] six = Doc.delegation(6, 0, Doc.keys(1, 1, 3), "z");
        int[][] a = {Doc.target("a", 0, 0)};
        for (int role = 3; role <= 6; role++) {
            sound("a delegation", Doc.targets(role, 1, 9, NO, new int[][] {four}));
            sound("three delegations", Doc.targets(role, 1, 9, a, new int[][] {six, four, five}));
            malformed("four delegations", Doc.targets(role, 1, 9, a, new int[][] {six, four, five, four}));
            malformed("a role twice", Doc.targets(role, 1, 9, a, new int[][] {four, four}));
            malformed("a role twice", Doc.targets(role, 1, 9, a, new int[][] {five, four, Doc.delegation(5, 0, SET, "b")}));
        }
        for (int role : new int[] {0, 2, 3, 7, 36, 255}) {
            malformed("delegate " + role, Doc.targets(3, 1, 9, a, new int[][] {Doc.delegation(role, 0, SET, "")}));
        }
        for (int last : new int[] {2, 3, 255}) {
            malformed("final " + last, Doc.targets(3, 1, 9, a, new int[][] {Doc.delegation(4, last, SET, "")}));
        }
        for (String prefix : new String[] {"abcd", "A", "aB", "abC", "{", "`", "a0"}) {
            malformed("prefix " + prefix, Doc.targets(3, 1, 9, a, new int[][] {Doc.delegation(4, 0, SET, prefix)}));
        }
        malformed("255 delegations", holding(0, 255));
    }

    private static void signatures() {
        Doc part = Doc.stamp(1, 9, 1, 1);
        TrustedUpdates x = new TrustedUpdates();
        part.with(6).with(new int[30]).draftIn(x);
        CHECKS.refused("six wrong signatures", IndexOutOfBoundsException.class, x, x::offer);
        part.with(1, 9, 255, 255, 255, 255).draftIn(x);
        CHECKS.refused("a signature of key 9", IndexOutOfBoundsException.class, x, x::offer);
        refusedBy("seven signatures", part.with(7).with(new int[35]));
        refusedBy("255 signatures", part.with(255));
        refusedBy("a signature of key 10", part.with(1, 10, 0, 0, 0, 0));
        refusedBy("a signature of key 255", part.with(2, 1, 0, 0, 0, 0, 255, 0, 0, 0, 0));
        Doc signed = part.signed(1, 2);
        for (int size = part.bytes.length + 1; size < signed.bytes.length; size++) {
            refusedBy("signed, the first " + size, signed.cut(size));
        }
        part.draftIn(x);
        CHECKS.refused("no number of signatures: offer", IllegalArgumentException.class, x, x::offer);
        root(SET).draftIn(x);
        CHECKS.refused("no number of signatures: begin", IllegalArgumentException.class, x, () -> begin(x));
    }

    private MalformedTest() {
    }
}
