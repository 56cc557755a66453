import java.util.ArrayList;
import java.util.LinkedHashSet;
import java.util.List;
import java.util.Set;

/**
 * Calls on a new object, each with the answer that is due. They are kept, so that a call that must change nothing can
 * be tested on twins: one that had the same calls, and one that had that call behind them. An object past its 512th
 * call is free to answer anything, so a run that is longer fails.
 */
final class Run {
    static final int LIMIT = 512;

    private final TrustedUpdates x = new TrustedUpdates();
    private final List<Call> calls = new ArrayList<>();
    private final Set<Doc> drafts = new LinkedHashSet<>();

    String answer(Call call) {
        if (calls.size() == LIMIT) {
            throw new AssertionError("a run of more than " + LIMIT + " calls promises nothing");
        }
        calls.add(call);
        return call.on(x);
    }

    /** How many calls it had. */
    int size() {
        return calls.size();
    }

    Run due(Call call, long want) {
        mustBe(call, answer(call), Long.toString(want));
        return this;
    }

    /** True, as an answer of put, cut, alter and digest. */
    Run does(Call... done) {
        for (Call call : done) {
            due(call, 1);
        }
        return this;
    }

    /** The call throws just that, and changes nothing. */
    Run refuses(Class<? extends RuntimeException> want, Call call) {
        mustChangeNothing(call);
        mustBe(call, answer(call), Call.thrown(want));
        return this;
    }

    /** The call answers false, and changes nothing. */
    Run declines(Call call) {
        mustChangeNothing(call);
        return due(call, 0);
    }

    /** The call answers so, and changes nothing. */
    Run tells(Call call, long want) {
        mustChangeNothing(call);
        return due(call, want);
    }

    private void mustBe(Call call, String got, String want) {
        if (!got.equals(want)) {
            throw new AssertionError("call " + calls.size() + ", " + call.text() + " answered " + got + ", due is "
                    + want);
        }
    }

    /** On twins, because what probes an object changes it. */
    private void mustChangeNothing(Call call) {
        for (Probe probe : Probe.values()) {
            Run before = twin();
            Run after = twin();
            after.answer(call);
            mustBeTheSame(call, probe, probe.of(before, drafts), probe.of(after, drafts));
        }
    }

    private static void mustBeTheSame(Call call, Probe probe, List<String> before, List<String> after) {
        for (int i = 0; i < before.size(); i++) {
            if (!after.get(i).equals(before.get(i))) {
                throw new AssertionError(call.text() + " changed " + probe + ": " + before.get(i) + " without it, "
                        + after.get(i) + " behind it");
            }
        }
    }

    private Run twin() {
        Run twin = new Run();
        for (Call call : calls) {
            twin.answer(call);
        }
        return twin;
    }

    /** Makes it the draft. */
    Run draft(Doc doc) {
        drafts.add(doc);
        does(Call.cut(0));
        for (int i = 0; i < doc.bytes.length; i += 8) {
            int n = Math.min(8, doc.bytes.length - i);
            does(Call.put(doc.wordAt(i, n), n));
        }
        return this;
    }

    Run begins(Doc doc) {
        return draft(doc).due(Call.begin(), 0);
    }

    /** The offered document is trusted for its role. */
    Run takes(Doc doc) {
        draft(doc).due(Call.offer(), doc.role());
        due(Call.trusted(doc.role(), false), doc.bytes[1]);
        return due(Call.trusted(doc.role(), true), doc.bytes[2] << 8 | doc.bytes[3]);
    }

    Run refuses(Class<? extends RuntimeException> want, Doc doc) {
        return draft(doc).refuses(want, Call.offer());
    }

    /** No document is trusted for these roles. */
    Run trustsNone(int... roles) {
        for (int role : roles) {
            due(Call.trusted(role, false), TrustedUpdates.NONE);
            due(Call.trusted(role, true), TrustedUpdates.NONE);
        }
        return this;
    }

    /** A document of that version is trusted for each of these roles. */
    Run trusts(int version, int... roles) {
        for (int role : roles) {
            due(Call.trusted(role, false), version);
        }
        return this;
    }

    /** Makes it the content. */
    Run keeps(int... content) {
        return draft(new Doc(content)).due(Call.content(), content.length);
    }

    Run finds(String name, int role, int visits) {
        return due(Call.seek(name), role).due(Call.visits(), visits);
    }

    /** The draft is just these bytes. */
    Run hasDraft(int... bytes) {
        due(Call.length(), bytes.length);
        for (int i = 0; i < bytes.length; i++) {
            due(Call.at(i), bytes[i]);
        }
        return this;
    }

    /** A client that trusts a root of one key a role: 0 for ROOT, 1 for STAMP, 2 for SNAPSHOT, 3 for TARGETS. */
    static Run withRoot() {
        return new Run().begins(World.ROOT.signed(0));
    }

    /** One that trusts, too, a stamp and the snapshot that it says. */
    static Run withSnapshot(Doc snapshot) {
        return withRoot().takes(World.stampOf(1, snapshot)).takes(snapshot);
    }

    /** One whose snapshot says version 1 for every role. */
    static Run withEveryRole() {
        return withSnapshot(World.snapshot(1, 3, 1, 4, 1, 5, 1, 6, 1));
    }
}
