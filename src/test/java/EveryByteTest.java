import java.util.Arrays;
import java.util.Set;
import java.util.TreeSet;
import java.util.function.Consumer;
import java.util.function.LongSupplier;

/**
 * Documents of every role with one byte of them changed to each of its values, left out, or one put between; each
 * once with the signatures as they were, and once signed anew. What begin, offer, sign and seek answer must be what
 * the model answers, so no byte of a document can be read another way than the document says.
 */
public final class EveryByteTest {
    private static final Checks CHECKS = new Checks();
    private static final Set<String> REACHED = new TreeSet<>();
    private static final int END = 1000;
    private static final int CLOCK = 800;
    private static final int CALLS = 512;
    private static final int[] BETWEEN = {0, 1, 4, 'a', 255};
    private static final String[] NAMES = {"a", "b", "ab", "bcd", "c", "cz"};

    private static final int[] ROOT_KEYS = Doc.keys(2, 0, 1, 9);
    private static final int[] STAMP_KEYS = Doc.keys(1, 1, 2);
    private static final int[] SNAPSHOT_KEYS = Doc.keys(1, 2);
    private static final int[] TARGETS_KEYS = Doc.keys(2, 3, 4, 5, 6);

    private static final Doc FIRST_ROOT = root(1).signed(0, 1);
    private static final Doc SNAPSHOT = Doc.snapshot(2, END, 3, 5, 4, 6, 6, 7).signed(2);
    private static final Doc STAMP = Doc.stampFor(2, END, SNAPSHOT).signed(1);
    private static final Doc TARGETS = Doc.targets(3, 5, END, new int[][] {Doc.targetOf("a"), Doc.targetOf("bcd", 1)},
            new int[][] {Doc.delegation(4, 0, Doc.keys(1, 4, 7), "ab"), Doc.delegation(6, 1, Doc.keys(2, 6, 8), "")});
    private static final Doc FOUR = Doc.targets(4, 6, END, new int[][] {Doc.targetOf("ab")},
            new int[][] {Doc.delegation(6, 0, Doc.keys(1, 6), "a")});
    private static final Doc SIX = Doc.targets(6, 7, END, new int[][] {Doc.targetOf("c"), Doc.targetOf("b")},
            new int[0][]);

    public static void main(String[] args) {
        Doc[] roots = {FIRST_ROOT};
        Doc[] stamped = {FIRST_ROOT, STAMP};
        Doc[] all = {FIRST_ROOT, STAMP, SNAPSHOT, SIX.signed(6, 8), FOUR.signed(4), TARGETS.signed(3, 6)};
        Doc[] withoutSix = {FIRST_ROOT, STAMP, SNAPSHOT, TARGETS.signed(3, 6)};
        sweep("a root", all, root(2), 0, 1);
        sweep("a stamp", all, Doc.stampFor(2, END, SNAPSHOT), 1, 2);
        sweep("the first stamp", roots, Doc.stamp(9, END, 2, 7), 2);
        sweep("a snapshot", all, Doc.snapshot(3, END, 3, 5, 4, 7, 5, 1, 6, 8), 2);
        sweep("the first snapshot", stamped, SNAPSHOT.cut(11), 2);
        sweep("TARGETS", all, TARGETS, 3, 6);
        sweep("role 4", all, FOUR, 7, 6);
        sweep("role 5, which the snapshot does not have", all, FOUR.altered(0, 5), 5);
        sweep("role 6", withoutSix, SIX, 8, 6);
        for (String answer : new String[] {"0", "1", "2", "3", "4", "6", "throws.IllegalArgumentException",
            "throws.IndexOutOfBoundsException", "throws.IllegalStateException", "throws.UnsupportedOperationException",
            "throws.NoSuchElementException"}) {
            CHECKS.due("an offer that answers " + answer, REACHED.contains(answer), true);
        }
        CHECKS.finish("EveryByteTest");
    }

    private static Doc root(int version) {
        return Doc.root(version, END, ROOT_KEYS, STAMP_KEYS, SNAPSHOT_KEYS, TARGETS_KEYS);
    }

    private static void sweep(String what, Doc[] before, Doc part, int... signers) {
        Doc signed = part.signed(signers);
        Sweep sweep = new Sweep(what, before);
        eachNear(signed, sweep::offer);
        eachNear(signed, sweep::begin);
        eachNear(signed, sweep::sign);
        eachNear(part, sweep::sign);
        eachNear(part, near -> sweep.offer(near.signed(signers)));
    }

    /** This row, and every one that is a byte away from it. */
    private static void eachNear(Doc doc, Consumer<Doc> use) {
        for (int i = 0; i < doc.bytes.length; i++) {
            for (int value = 0; value < 256; value++) {
                use.accept(doc.altered(i, value));
            }
            Doc first = doc.cut(i);
            use.accept(first);
            use.accept(first.with(Arrays.copyOfRange(doc.bytes, i + 1, doc.bytes.length)));
        }
        for (int i = 0; i <= doc.bytes.length; i++) {
            for (int value : BETWEEN) {
                int[] rest = Arrays.copyOfRange(doc.bytes, i, doc.bytes.length);
                use.accept(doc.cut(i).with(value).with(rest));
            }
        }
    }

    /** A client and a model side by side, made anew when they have taken something, or near their last call. */
    private static final class Sweep {
        private final String what;
        private final Doc[] before;
        private TrustedUpdates x;
        private Model model;
        private Doc draft;
        private int calls = CALLS;

        Sweep(String what, Doc[] before) {
            this.what = what;
            this.before = before;
        }

        void offer(Doc doc) {
            prepare();
            boolean stamped = doc.bytes.length > 3 && doc.role() == Doc.SNAPSHOT;
            if (stamped) {
                offerStampFor(doc);
            }
            draft(doc);
            String answer = same("offer()", x::offer, model::offer);
            REACHED.add(answer);
            if (!answer.startsWith("throws")) {
                lookAround();
            }
            if (stamped) {
                calls = CALLS;
            }
        }

        void begin(Doc doc) {
            prepare();
            draft(doc);
            String answer = same("begin()", () -> begun(x), model::begin);
            if (!answer.startsWith("throws")) {
                lookAround();
            }
        }

        void sign(Doc doc) {
            prepare();
            draft(doc);
            same("sign(7)", () -> x.sign(7), () -> model.sign(7));
            same("length()", x::length, model::length);
            same("mix(3)", () -> x.mix(3), () -> model.mix(3));
        }

        /** So that a changed snapshot is refused for what it says, not for its digest alone. */
        private void offerStampFor(Doc snapshot) {
            if (snapshot.bytes[1] >= 2) {
                draft(Doc.stampFor(3, END, snapshot).signed(1));
                same("offer() of its stamp", x::offer, model::offer);
            }
        }

        private static int begun(TrustedUpdates x) {
            x.begin();
            return 0;
        }

        private void prepare() {
            if (calls < CALLS - 80) {
                return;
            }
            x = new TrustedUpdates();
            model = new Model();
            calls = 0;
            draft(before[0]);
            same("begin()", () -> begun(x), model::begin);
            for (int i = 1; i < before.length; i++) {
                draft(before[i]);
                String answer = same("offer() before", x::offer, model::offer);
                CHECKS.dueText(what + ": a document before it", answer, Integer.toString(before[i].role()));
            }
            same("tick(" + CLOCK + ")", () -> x.tick(CLOCK), () -> model.tick(CLOCK));
        }

        private void draft(Doc doc) {
            draft = doc;
            x.cut(0);
            model.cut(0);
            calls++;
            for (int i = 0; i < doc.bytes.length; i += 8) {
                int n = Math.min(8, doc.bytes.length - i);
                x.put(doc.wordAt(i, n), n);
                model.put(doc.wordAt(i, n), n);
                calls++;
            }
        }

        private String same(String call, LongSupplier program, LongSupplier due) {
            calls++;
            String got = Checks.answerOf(program);
            String want = Checks.answerOf(due);
            String ofWhat = got.equals(want) ? "" : " with the draft " + Arrays.toString(draft.bytes);
            CHECKS.dueText(what + ": " + call + ofWhat, got, want);
            return want;
        }

        private void lookAround() {
            for (int role = 0; role <= 6; role++) {
                int asked = role;
                same("trusted(" + role + ", false)", () -> x.trusted(asked, false), () -> model.trusted(asked, false));
                same("trusted(" + role + ", true)", () -> x.trusted(asked, true), () -> model.trusted(asked, true));
            }
            for (String name : NAMES) {
                long w = Doc.name(name);
                same("seek(" + name + ")", () -> x.seek(w, name.length()), () -> model.seek(w, name.length()));
                same("visits()", x::visits, model::visits);
                same("install(" + name + ")", () -> x.install(w, name.length()), () -> model.install(w, name.length()));
            }
            calls = CALLS;
        }
    }

    private EveryByteTest() {
    }
}
