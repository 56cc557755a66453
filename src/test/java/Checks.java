import java.util.function.LongSupplier;

/** Counts answers that are not the ones due, and prints each of them. */
final class Checks {
    private static final int LONGEST_LIST = 40;
    private int done;
    private int wrong;

    void due(String what, long got, long want) {
        done++;
        if (got != want) {
            tell(what + " answered " + got + ", due is " + want);
        }
    }

    void due(String what, boolean got, boolean want) {
        due(what, got ? 1L : 0L, want ? 1L : 0L);
    }

    void dueText(String what, String got, String want) {
        done++;
        if (!got.equals(want)) {
            tell(what + " was " + got + ", due is " + want);
        }
    }

    /** The call must throw just that exception, and leave everything that can be seen of the object as it was. */
    void refused(String what, Class<? extends RuntimeException> want, TrustedUpdates x, LongSupplier call) {
        String before = View.of(x);
        String answer = answerOf(call);
        dueText(what, answer, "throws." + want.getSimpleName());
        dueText(what + ", what is seen after it", View.of(x), before);
    }

    /** The draft must be taken for its role, or its offer be refused so. */
    void refusedUnless(boolean taken, String what, Class<? extends RuntimeException> want, TrustedUpdates x) {
        if (!taken) {
            refused(what, want, x, x::offer);
            return;
        }
        dueText(what, answerOf(x::offer), Integer.toString(x.at(0)));
        due(what + ": the version", x.trusted(x.at(0), false), x.at(1));
        due(what + ": the end", x.trusted(x.at(0), true), x.at(2) << 8 | x.at(3));
    }

    static String answerOf(LongSupplier call) {
        try {
            return Long.toString(call.getAsLong());
        } catch (RuntimeException e) {
            return "throws." + e.getClass().getSimpleName();
        }
    }

    private void tell(String text) {
        wrong++;
        if (wrong <= LONGEST_LIST) {
            System.out.println(text);
        }
    }

    void finish(String test) {
        System.out.println(test + ": " + done + " answers, " + wrong + " not as due");
        if (wrong != 0 || done == 0) {
            System.exit(1);
        }
    }
}
