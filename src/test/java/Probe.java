import java.util.ArrayList;
import java.util.List;
import java.util.Set;

/** A way to look into an object, which may change it: what two objects answer tells whether they are the same. */
enum Probe {
    /** What the face tells, and the content. */
    WHAT_IS_SEEN {
        @Override
        void ask(Run run, Set<Doc> drafts, List<String> answers) {
            tell(run, answers, Call.length(), Call.mix(0), Call.mix(1), Call.tick(0), Call.visits(), Call.installed());
            for (int role = 0; role <= 6; role++) {
                tell(run, answers, Call.trusted(role, false), Call.trusted(role, true));
            }
            tell(run, answers, Call.cut(0), Call.digest(), Call.mix(0));
        }
    },

    /** What the targets and the delegates vouch for. */
    WHAT_IS_FOUND {
        @Override
        void ask(Run run, Set<Doc> drafts, List<String> answers) {
            for (String name : new String[] {"a", "b", "c", "ab", "abc", "abcd", "z", "zzzz"}) {
                tell(run, answers, Call.seek(name), Call.visits(), Call.install(name), Call.visits(), Call.installed());
            }
        }
    },

    /** The keys of the trusted root: what each key alone can sign. */
    WHOSE_SIGNATURES_COUNT {
        @Override
        void ask(Run run, Set<Doc> drafts, List<String> answers) {
            for (int key = 0; key <= 9; key++) {
                offer(run, answers, Doc.stamp(1, World.END, 1, 0).signed(key));
                offer(run, answers, Doc.snapshot(1, World.END, 3, 1).signed(key));
                offer(run, answers, World.empty(3, 1, World.END).signed(key));
                int[] set = Doc.keys(1, key);
                offer(run, answers, Doc.root(255, World.END, set, set, set, set).signed(key));
            }
        }
    },

    /** The versions that the trusted stamp and the trusted snapshot ask for. */
    WHICH_VERSIONS_COUNT {
        @Override
        void ask(Run run, Set<Doc> drafts, List<String> answers) {
            for (int version = 1; version <= 9; version++) {
                offer(run, answers, World.empty(3, version, World.END).signed(3));
                for (int role = 4; role <= 6; role++) {
                    offer(run, answers, World.empty(role, version, World.END).signed());
                }
                offer(run, answers, Doc.stamp(9, World.END, version, 0).signed(1));
            }
        }
    },

    /** What becomes of every draft that the run has had, if it is offered. */
    WHAT_IS_TAKEN {
        @Override
        void ask(Run run, Set<Doc> drafts, List<String> answers) {
            for (Doc doc : drafts) {
                offer(run, answers, doc);
            }
        }
    };

    abstract void ask(Run run, Set<Doc> drafts, List<String> answers);

    /** The calls that it made, each with its answer. */
    List<String> of(Run run, Set<Doc> drafts) {
        List<String> answers = new ArrayList<>();
        ask(run, drafts, answers);
        return answers;
    }

    private static void tell(Run run, List<String> answers, Call... calls) {
        for (Call call : calls) {
            answers.add(call.text() + " answers " + run.answer(call));
        }
    }

    private static void offer(Run run, List<String> answers, Doc doc) {
        run.draft(doc);
        tell(run, answers, Call.offer());
    }
}
