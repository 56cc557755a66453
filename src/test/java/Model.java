import java.util.ArrayList;
import java.util.HashSet;
import java.util.LinkedHashSet;
import java.util.List;
import java.util.NoSuchElementException;
import java.util.Set;
import java.util.TreeMap;

/**
 * The document's words once more, written apart from the program and in another way: a document is parsed into
 * lists and maps, and the state is made of those. The program is compared with it over random runs.
 */
final class Model {
    record KeySet(int threshold, Set<Integer> keys) {
    }

    record Target(int length, int digest) {
    }

    record Delegation(int role, boolean last, KeySet keys, String prefix) {
    }

    record Signature(int key, int value) {
    }

    /** What does not belong to the role is empty. */
    record Document(List<Integer> bytes, int role, int version, int end, List<KeySet> sets, int stampedVersion,
            int stampedDigest, TreeMap<Integer, Integer> versions, TreeMap<String, Target> targets,
            List<Delegation> delegations, List<Integer> signedPart, List<Signature> signatures) {
        boolean signedBy(KeySet set) {
            Set<Integer> signers = new HashSet<>();
            for (Signature signature : signatures) {
                if (set.keys.contains(signature.key) && signature.value == mix(signedPart, signature.key + 1)) {
                    signers.add(signature.key);
                }
            }
            return signers.size() >= set.threshold;
        }
    }

    private List<Integer> draft = new ArrayList<>();
    private List<Integer> content = new ArrayList<>();
    private final Document[] trusted = new Document[7];
    private int clock;
    private int visits;
    private int installed;

    static int mix(List<Integer> row, int s) {
        int h = s * 0x9E3779B9;
        for (int b : row) {
            h = (h ^ b) * 0x01000193;
            h = h ^ (h >>> 15);
        }
        return h;
    }

    /** Thrown by a parse that meets what no document has there. */
    @SuppressWarnings("serial")
    static final class Malformed extends Exception {
    }

    private static final class Parser {
        private final List<Integer> row;
        private int at;

        Parser(List<Integer> row) {
            this.row = row;
        }

        int take() throws Malformed {
            need(at < row.size());
            return row.get(at++);
        }

        int word() throws Malformed {
            int value = 0;
            for (int i = 0; i < 4; i++) {
                value = value * 256 + take();
            }
            return value;
        }

        static void need(boolean right) throws Malformed {
            if (!right) {
                throw new Malformed();
            }
        }

        int takeNonZero() throws Malformed {
            int value = take();
            need(value != 0);
            return value;
        }

        int key() throws Malformed {
            int key = take();
            need(key < 10);
            return key;
        }

        KeySet keySet() throws Malformed {
            int threshold = takeNonZero();
            int count = take();
            need(count >= 1 && count <= 4 && count >= threshold);
            LinkedHashSet<Integer> keys = new LinkedHashSet<>();
            int last = -1;
            for (int i = 0; i < count; i++) {
                int key = key();
                need(key > last);
                keys.add(key);
                last = key;
            }
            return new KeySet(threshold, keys);
        }

        String letters(int least, int most) throws Malformed {
            int count = take();
            need(count >= least && count <= most);
            StringBuilder text = new StringBuilder();
            for (int i = 0; i < count; i++) {
                char letter = (char) take();
                need("abcdefghijklmnopqrstuvwxyz".indexOf(letter) >= 0);
                text.append(letter);
            }
            return text.toString();
        }

        TreeMap<Integer, Integer> entries() throws Malformed {
            TreeMap<Integer, Integer> versions = new TreeMap<>();
            int count = take();
            need(count >= 1 && count <= 4);
            for (int i = 0; i < count; i++) {
                int role = take();
                need(role >= 3 && role <= 6 && (versions.isEmpty() ? role == 3 : role > versions.lastKey()));
                versions.put(role, takeNonZero());
            }
            return versions;
        }

        TreeMap<String, Target> targets() throws Malformed {
            TreeMap<String, Target> targets = new TreeMap<>();
            int count = take();
            need(count <= 4);
            for (int i = 0; i < count; i++) {
                String name = letters(1, 4);
                int length = take();
                need(targets.put(name, new Target(length, word())) == null);
            }
            return targets;
        }

        List<Delegation> delegations() throws Malformed {
            List<Delegation> all = new ArrayList<>();
            Set<Integer> roles = new HashSet<>();
            int count = take();
            need(count <= 3);
            for (int i = 0; i < count; i++) {
                int role = take();
                need(role >= 4 && role <= 6 && roles.add(role));
                int last = take();
                need(last <= 1);
                KeySet keys = keySet();
                all.add(new Delegation(role, last == 1, keys, letters(0, 3)));
            }
            return all;
        }

        Document document(boolean bare) throws Malformed {
            int role = take();
            need(role <= 6);
            int version = takeNonZero();
            int end = take() * 256;
            end += take();
            List<KeySet> sets = new ArrayList<>();
            int stampedVersion = 0;
            int stampedDigest = 0;
            TreeMap<Integer, Integer> versions = new TreeMap<>();
            TreeMap<String, Target> targets = new TreeMap<>();
            List<Delegation> delegations = new ArrayList<>();
            if (role == 0) {
                for (int i = 0; i < 4; i++) {
                    sets.add(keySet());
                }
            } else if (role == 1) {
                stampedVersion = takeNonZero();
                stampedDigest = word();
            } else if (role == 2) {
                versions = entries();
            } else {
                targets = targets();
                delegations = delegations();
            }
            List<Integer> signedPart = new ArrayList<>(row.subList(0, at));
            List<Signature> signatures = new ArrayList<>();
            int count = bare ? 0 : take();
            need(count <= 6);
            for (int i = 0; i < count; i++) {
                int key = key();
                signatures.add(new Signature(key, word()));
            }
            need(at == row.size());
            return new Document(new ArrayList<>(row), role, version, end, sets, stampedVersion, stampedDigest, versions,
                    targets, delegations, signedPart, signatures);
        }
    }

    /** Null when it is malformed. */
    private Document parsed(boolean bare) {
        try {
            return new Parser(draft).document(bare);
        } catch (Malformed e) {
            return null;
        }
    }

    boolean put(long w, int n) {
        if (n < 1 || n > 8 || draft.size() + n > 120) {
            return false;
        }
        for (int i = 0; i < n; i++) {
            draft.add((int) (w & 255));
            w >>= 8;
        }
        return true;
    }

    boolean cut(int n) {
        if (n < 0 || draft.size() < n) {
            return false;
        }
        draft = new ArrayList<>(draft.subList(0, n));
        return true;
    }

    boolean alter(int i, int v) {
        if (i < 0 || i >= draft.size()) {
            return false;
        }
        draft.set(i, Math.floorMod(v, 256));
        return true;
    }

    int length() {
        return draft.size();
    }

    int at(int i) {
        if (i < 0 || i >= draft.size()) {
            throw new IndexOutOfBoundsException();
        }
        return draft.get(i);
    }

    int mix(int s) {
        return mix(draft, s);
    }

    private void putWord(int value) {
        for (int shift = 24; shift >= 0; shift -= 8) {
            draft.add(value >> shift & 255);
        }
    }

    boolean digest() {
        if (draft.size() > 116) {
            return false;
        }
        putWord(mix(content, 0));
        return true;
    }

    int sign(int key) {
        if (key < 0 || key > 9) {
            throw new IndexOutOfBoundsException();
        }
        Document bare = parsed(true);
        Document whole = parsed(false);
        if (bare == null && whole == null) {
            throw new IllegalArgumentException();
        }
        if (bare != null) {
            if (draft.size() + 6 > 120) {
                throw new UnsupportedOperationException();
            }
            draft.add(0);
        } else if (whole.signatures.size() == 6 || draft.size() + 5 > 120) {
            throw new UnsupportedOperationException();
        }
        List<Integer> part = bare != null ? bare.signedPart : whole.signedPart;
        int count = draft.get(part.size()) + 1;
        draft.set(part.size(), count);
        draft.add(key);
        putWord(mix(part, key + 1));
        return count;
    }

    int content() {
        content = new ArrayList<>(draft);
        return content.size();
    }

    int tick(int n) {
        if (n < 0 || n > 10000) {
            throw new IllegalArgumentException();
        }
        return clock += n;
    }

    int begin() {
        Document root = parsed(false);
        if (root == null || root.role != 0) {
            throw new IllegalArgumentException();
        }
        java.util.Arrays.fill(trusted, null);
        trusted[0] = root;
        return 0;
    }

    private boolean lives(int role) {
        return trusted[role] != null && trusted[role].end > clock;
    }

    int offer() {
        Document doc = parsed(false);
        if (doc == null) {
            throw new IllegalArgumentException();
        }
        if (!hasGround(doc.role)) {
            throw new IndexOutOfBoundsException();
        }
        if (doc.role <= 3 && !doc.signedBy(trusted[0].sets.get(doc.role))
                || doc.role == 0 && !doc.signedBy(doc.sets.get(0))) {
            throw new IllegalStateException();
        }
        if (!versionsFit(doc)) {
            throw new UnsupportedOperationException();
        }
        if (doc.role != 0 && doc.end <= clock) {
            throw new NoSuchElementException();
        }
        if (doc.role == 0 && !doc.sets.subList(1, 3).equals(trusted[0].sets.subList(1, 3))) {
            trusted[1] = null;
            trusted[2] = null;
        }
        trusted[doc.role] = doc;
        return doc.role;
    }

    private boolean hasGround(int role) {
        if (role == 0) {
            return trusted[0] != null;
        }
        boolean ground = lives(0);
        if (role == 2) {
            ground = ground && lives(1);
        }
        if (role >= 3) {
            ground = ground && lives(2) && trusted[2].versions.containsKey(role);
        }
        return ground;
    }

    private boolean versionsFit(Document doc) {
        Document old = trusted[doc.role];
        if (doc.role == 0) {
            return doc.version - old.version == 1;
        }
        if (doc.role == 1) {
            return old == null || doc.version >= old.version && doc.stampedVersion >= old.stampedVersion;
        }
        if (doc.role >= 3) {
            return doc.version == trusted[2].versions.get(doc.role);
        }
        if (doc.version != trusted[1].stampedVersion || mix(doc.bytes, 0) != trusted[1].stampedDigest) {
            return false;
        }
        return old == null || old.versions.entrySet().stream()
                .allMatch(e -> doc.versions.getOrDefault(e.getKey(), 0) >= e.getValue());
    }

    int trusted(int role, boolean ends) {
        if (role < 0 || role > 6) {
            throw new IndexOutOfBoundsException();
        }
        return trusted[role] == null ? -1 : ends ? trusted[role].end : trusted[role].version;
    }

    private boolean fresh(int role) {
        return lives(role) && trusted[2] != null && trusted[2].versions.getOrDefault(role, 0) == trusted[role].version;
    }

    private static final class Over extends RuntimeException {
        private static final long serialVersionUID = 1;
    }

    private int find(String name, Set<Integer> visited) {
        try {
            return visit(3, name, visited);
        } catch (Over e) {
            return -1;
        }
    }

    private int visit(int role, String name, Set<Integer> visited) {
        visited.add(role);
        if (trusted[role].targets.containsKey(name)) {
            return role;
        }
        for (Delegation delegation : trusted[role].delegations) {
            int next = delegation.role;
            if (name.startsWith(delegation.prefix) && !visited.contains(next) && fresh(next)
                    && trusted[next].signedBy(delegation.keys)) {
                int found = visit(next, name, visited);
                if (found >= 0) {
                    return found;
                }
                if (delegation.last) {
                    throw new Over();
                }
            }
        }
        return -1;
    }

    private String nameOf(long w, int n) {
        StringBuilder text = new StringBuilder();
        for (int i = 0; i < n && i < 8; i++) {
            text.append((char) (w >>> 8 * i & 255));
        }
        if (n < 1 || n > 4 || !text.toString().matches("[a-z]{1,4}")) {
            throw new IllegalArgumentException();
        }
        if (!lives(0) || !lives(1) || !lives(2) || !fresh(3)) {
            throw new IllegalStateException();
        }
        return text.toString();
    }

    int seek(long w, int n) {
        Set<Integer> visited = new HashSet<>();
        int role = find(nameOf(w, n), visited);
        visits = visited.size();
        return role;
    }

    int visits() {
        return visits;
    }

    int install(long w, int n) {
        Set<Integer> visited = new HashSet<>();
        String name = nameOf(w, n);
        int role = find(name, visited);
        if (role < 0) {
            throw new NoSuchElementException();
        }
        Target target = trusted[role].targets.get(name);
        if (target.length != content.size() || target.digest != mix(content, 0)) {
            throw new UnsupportedOperationException();
        }
        visits = visited.size();
        installed++;
        return role;
    }

    int installed() {
        return installed;
    }
}
