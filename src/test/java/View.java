/**
 * All that can be seen of an object without changing it, in few calls: the draft is told by its length and two mixes.
 */
final class View {
    static final int ROLES = 7;

    static String of(TrustedUpdates x) {
        StringBuilder text = new StringBuilder("draft ").append(x.length());
        text.append(' ').append(x.mix(0)).append(' ').append(x.mix(1));
        text.append("; trusted");
        for (int role = 0; role < ROLES; role++) {
            text.append(' ').append(x.trusted(role, false)).append('/').append(x.trusted(role, true));
        }
        text.append("; clock ").append(x.tick(0));
        text.append("; visits ").append(x.visits());
        text.append("; installed ").append(x.installed());
        return text.toString();
    }

    private View() {
    }
}
