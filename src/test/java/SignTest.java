/** Promise 9: sign. */
public final class SignTest {
    private static final Checks CHECKS = new Checks();
    private static final Doc ROOT = Doc.root(1, 1000, Doc.keys(1, 0), Doc.keys(1, 1), Doc.keys(1, 2), Doc.keys(1, 3));

    public static void main(String[] args) {
        signsEveryRole();
        signsAnew();
        signsBehindWrongSignatures();
        signsUpToSix();
        signsTheLargest();
        refusesKeys();
        refusesWhatIsNoDocument();
        namesTheFirstThatFits();
        CHECKS.finish("SignTest");
    }

    private static Doc draftOf(TrustedUpdates x) {
        int[] row = new int[x.length()];
        for (int i = 0; i < row.length; i++) {
            row[i] = x.at(i);
        }
        return new Doc(row);
    }

    private static void dueDraft(String what, TrustedUpdates x, Doc want) {
        CHECKS.dueText(what, java.util.Arrays.toString(draftOf(x).bytes), java.util.Arrays.toString(want.bytes));
    }

    private static void signsEveryRole() {
        Doc[] parts = {
            ROOT,
            Doc.stamp(1, 5, 2, 0x80FF0001),
            Doc.snapshot(255, 0, 3, 1, 6, 9),
            Doc.targets(3, 1, 65535, new int[0][], new int[0][]),
            Doc.targets(6, 1, 65535, new int[][] {Doc.target("abcd", 255, -1)}, new int[0][]),
        };
        for (Doc part : parts) {
            for (int key = 0; key <= 9; key++) {
                TrustedUpdates x = new TrustedUpdates();
                part.draftIn(x);
                CHECKS.due("sign(" + key + ")", x.sign(key), 1);
                dueDraft("signed by " + key, x, part.signed(key));
            }
        }
    }

    private static void signsAnew() {
        TrustedUpdates x = new TrustedUpdates();
        ROOT.signed().draftIn(x);
        CHECKS.due("sign of a document with no signatures", x.sign(4), 1);
        dueDraft("signed once", x, ROOT.signed(4));
        CHECKS.due("sign again", x.sign(4), 2);
        dueDraft("signed twice by one", x, ROOT.signed(4, 4));
        CHECKS.due("sign by another", x.sign(0), 3);
        dueDraft("signed by two", x, ROOT.signed(4, 4, 0));
    }

    private static void signsBehindWrongSignatures() {
        TrustedUpdates x = new TrustedUpdates();
        Doc wrong = ROOT.with(1, 7, 1, 2, 3, 4);
        wrong.draftIn(x);
        CHECKS.due("sign behind a wrong signature", x.sign(7), 2);
        Doc right = ROOT.signed(7);
        int signature = Doc.mix(ROOT.bytes, ROOT.bytes.length, 8);
        dueDraft("the wrong one stays", x, ROOT.with(2, 7, 1, 2, 3, 4, 7).with(Doc.word(signature)));
        CHECKS.due("the right one's size", right.bytes.length, ROOT.bytes.length + 6);
    }

    private static void signsUpToSix() {
        TrustedUpdates x = new TrustedUpdates();
        ROOT.draftIn(x);
        for (int i = 1; i <= 6; i++) {
            CHECKS.due("signature " + i, x.sign(i), i);
        }
        dueDraft("six signatures", x, ROOT.signed(1, 2, 3, 4, 5, 6));
        CHECKS.refused("a seventh", UnsupportedOperationException.class, x, () -> x.sign(7));
        CHECKS.refused("one again", UnsupportedOperationException.class, x, () -> x.sign(1));
    }

    /** The largest document there is has 113 bytes, so that six signatures always find room. */
    private static void signsTheLargest() {
        int[][] targets = {Doc.target("aaaa", 1, 1), Doc.target("aaab", 1, 1), Doc.target("aaac", 1, 1),
            Doc.target("aaad", 1, 1)};
        int[] set = Doc.keys(4, 6, 7, 8, 9);
        int[][] delegations = {Doc.delegation(6, 1, set, "abc"), Doc.delegation(5, 0, set, "xyz"),
            Doc.delegation(4, 1, set, "aaz")};
        Doc doc = Doc.targets(5, 255, 65535, targets, delegations);
        TrustedUpdates x = new TrustedUpdates();
        doc.draftIn(x);
        for (int i = 1; i <= 6; i++) {
            CHECKS.due("signature " + i + " of the largest", x.sign(9), i);
        }
        CHECKS.due("the largest", x.length(), 113);
        CHECKS.refused("a seventh of the largest", UnsupportedOperationException.class, x, () -> x.sign(7));
    }

    private static void refusesKeys() {
        TrustedUpdates x = new TrustedUpdates();
        ROOT.draftIn(x);
        for (int key : new int[] {10, -1, 255, 256, Integer.MIN_VALUE, Integer.MAX_VALUE}) {
            CHECKS.refused("sign(" + key + ")", IndexOutOfBoundsException.class, x, () -> x.sign(key));
        }
    }

    private static void refusesWhatIsNoDocument() {
        noDocument("nothing", new Doc());
        Doc signed = ROOT.signed(0, 1);
        for (int size = 1; size < signed.bytes.length; size++) {
            if (size != ROOT.bytes.length) {
                noDocument("the first " + size, signed.cut(size));
            }
        }
        noDocument("a byte behind", signed.with(0));
        noDocument("a byte behind no signatures", ROOT.signed().with(0));
        noDocument("seven", ROOT.signed(0, 1, 2, 3, 4, 5).altered(ROOT.bytes.length, 7).with(1, 1, 1, 1, 1));
        noDocument("key 10", ROOT.with(1, 10, 0, 0, 0, 0));
    }

    private static void noDocument(String what, Doc draft) {
        TrustedUpdates x = new TrustedUpdates();
        draft.draftIn(x);
        CHECKS.refused("sign of " + what, IllegalArgumentException.class, x, () -> x.sign(0));
    }

    private static void namesTheFirstThatFits() {
        TrustedUpdates x = new TrustedUpdates();
        CHECKS.refused("no key, no document", IndexOutOfBoundsException.class, x, () -> x.sign(10));
        ROOT.signed(0, 1, 2, 3, 4, 5).draftIn(x);
        CHECKS.refused("no key, six signatures", IndexOutOfBoundsException.class, x, () -> x.sign(-1));
        x.put(0, 1);
        CHECKS.refused("no document, six signatures", IllegalArgumentException.class, x, () -> x.sign(0));
    }

    private SignTest() {
    }
}
