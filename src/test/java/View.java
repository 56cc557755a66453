/** All that can be seen of an object without changing it. */
final class View {
    static final int ROLES = 7;

    static String of(TrustedUpdates x) {
        StringBuilder text = new StringBuilder("draft");
        for (int i = 0; i < x.length(); i++) {
            text.append(' ').append(x.at(i));
        }
        text.append("; trusted");
        for (int role = 0; role < ROLES; role++) {
            text.append(' ').append(x.trusted(role, false)).append('/').append(x.trusted(role, true));
        }
        text.append("; clock ").append(x.tick(0));
        text.append("; visits ").append(x.visits());
        text.append("; installed ").append(x.installed());
        return text.toString();
    }

    private View() {
    }
}
