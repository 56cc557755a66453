import java.util.Arrays;

/** The bytes of a document, or of what is nearly one. Each method answers a new row. */
final class Doc {
    static final int ROOT = 0;
    static final int STAMP = 1;
    static final int SNAPSHOT = 2;
    static final int TARGETS = 3;

    final int[] bytes;

    Doc(int... bytes) {
        this.bytes = bytes;
    }

    static int[] keys(int threshold, int... keys) {
        return join(new int[] {threshold, keys.length}, keys);
    }

    static Doc head(int role, int version, int end) {
        return new Doc(role, version, end >> 8 & 255, end & 255);
    }

    static Doc root(int version, int end, int[] root, int[] stamp, int[] snapshot, int[] targets) {
        return head(ROOT, version, end).with(root).with(stamp).with(snapshot).with(targets);
    }

    static Doc stamp(int version, int end, int snapshotVersion, int digest) {
        return head(STAMP, version, end).with(snapshotVersion).with(word(digest));
    }

    static Doc stampFor(int version, int end, Doc snapshot) {
        return stamp(version, end, snapshot.bytes[1], snapshot.digest());
    }

    static Doc snapshot(int version, int end, int... rolesAndVersions) {
        return head(SNAPSHOT, version, end).with(rolesAndVersions.length / 2).with(rolesAndVersions);
    }

    /** A document with targets and delegations, each as target() and delegation() make them. */
    static Doc targets(int role, int version, int end, int[][] targets, int[][] delegations) {
        Doc doc = head(role, version, end).with(targets.length);
        for (int[] target : targets) {
            doc = doc.with(target);
        }
        doc = doc.with(delegations.length);
        for (int[] delegation : delegations) {
            doc = doc.with(delegation);
        }
        return doc;
    }

    static int[] target(String name, int length, int digest) {
        return join(letters(name), new int[] {length}, word(digest));
    }

    static int[] targetOf(String name, int... content) {
        return target(name, content.length, mix(content, content.length, 0));
    }

    static int[] delegation(int role, int last, int[] keySet, String prefix) {
        return join(new int[] {role, last}, keySet, letters(prefix));
    }

    static int[] letters(String text) {
        int[] row = new int[text.length() + 1];
        row[0] = text.length();
        for (int i = 0; i < text.length(); i++) {
            row[i + 1] = text.charAt(i);
        }
        return row;
    }

    static int[] word(int value) {
        return new int[] {value >>> 24, value >>> 16 & 255, value >>> 8 & 255, value & 255};
    }

    static int[] join(int[]... rows) {
        return Arrays.stream(rows).flatMapToInt(Arrays::stream).toArray();
    }

    /** The mix as the document tells it. */
    static int mix(int[] row, int size, int s) {
        int h = s * 0x9E3779B9;
        for (int i = 0; i < size; i++) {
            h = (h ^ row[i]) * 0x01000193;
            h = h ^ h >>> 15;
        }
        return h;
    }

    int digest() {
        return mix(bytes, bytes.length, 0);
    }

    Doc with(int... more) {
        return new Doc(join(bytes, more));
    }

    /** This signed part, the number of signatures and the right one of each key. */
    Doc signed(int... signers) {
        Doc doc = with(signers.length);
        for (int key : signers) {
            doc = doc.with(key).with(word(mix(bytes, bytes.length, key + 1)));
        }
        return doc;
    }

    Doc altered(int i, int value) {
        int[] row = bytes.clone();
        row[i] = value;
        return new Doc(row);
    }

    Doc cut(int size) {
        return new Doc(Arrays.copyOf(bytes, size));
    }

    int role() {
        return bytes[0];
    }

    /** The n bytes from a place on, as put() takes them. */
    long wordAt(int from, int n) {
        long w = 0;
        for (int i = n - 1; i >= 0; i--) {
            w = w << 8 | bytes[from + i];
        }
        return w;
    }

    /** Makes it the draft. */
    void draftIn(TrustedUpdates x) {
        x.cut(0);
        for (int i = 0; i < bytes.length; i += 8) {
            int n = Math.min(8, bytes.length - i);
            if (!x.put(wordAt(i, n), n)) {
                throw new AssertionError("the draft does not take " + bytes.length + " bytes");
            }
        }
    }

    int offerTo(TrustedUpdates x) {
        draftIn(x);
        return x.offer();
    }

    void beginIn(TrustedUpdates x) {
        draftIn(x);
        x.begin();
    }

    static long name(String letters) {
        long w = 0;
        for (int i = letters.length() - 1; i >= 0; i--) {
            w = w << 8 | letters.charAt(i);
        }
        return w;
    }
}
