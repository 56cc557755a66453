import java.util.NoSuchElementException;

/**
 * A client that takes updates from whoever brings them, and trusts only what is vouched for.
 *
 * The draft, the content and every document are made once, with the client, and used again by each call.
 */
public final class TrustedUpdates {
    public static final int NONE = -1;

    private static final int ROOT = 0;
    private static final int STAMP = 1;
    private static final int SNAPSHOT = 2;
    private static final int TARGETS = 3;
    private static final int FIRST_DELEGATE = 4;
    private static final int LAST_ROLE = 6;

    private static final int LAST_KEY = 9;
    private static final int LAST_BYTE = 255;
    private static final int ROW_LIMIT = 120;
    private static final int PUT_LIMIT = 8;
    private static final int WORD_BYTES = 4;
    private static final int NAME_LIMIT = 4;
    private static final int SIGNATURE_LIMIT = 6;
    private static final int SIGNATURE_BYTES = 1 + WORD_BYTES;
    private static final int TICK_LIMIT = 10000;

    private final Row draft;
    private final Row content;
    private final Document offered;
    private final Trust trust;
    private final Search search;
    private int latestVisits;
    private int installs;

    public TrustedUpdates() {
        draft = new Row(ROW_LIMIT);
        content = new Row(ROW_LIMIT);
        offered = new Document();
        trust = new Trust();
        search = new Search(trust);
    }

    public boolean put(long w, int n) {
        if (n < 1 || n > PUT_LIMIT || !draft.hasRoomFor(n)) {
            return false;
        }
        draft.appendLowest(w, n);
        return true;
    }

    public boolean cut(int n) {
        if (n < 0 || n > draft.size()) {
            return false;
        }
        draft.keepFirst(n);
        return true;
    }

    public boolean alter(int i, int v) {
        if (!draft.has(i)) {
            return false;
        }
        draft.replace(i, v);
        return true;
    }

    public int length() {
        return draft.size();
    }

    public int at(int i) throws IndexOutOfBoundsException {
        if (!draft.has(i)) {
            throw new IndexOutOfBoundsException();
        }
        return draft.byteAt(i);
    }

    public int mix(int s) {
        return draft.mixOfFirst(draft.size(), s);
    }

    public boolean digest() {
        if (!draft.hasRoomFor(WORD_BYTES)) {
            return false;
        }
        draft.appendWord(content.wholeDigest());
        return true;
    }

    public int sign(int key) throws IndexOutOfBoundsException, IllegalArgumentException, UnsupportedOperationException {
        if (key < 0 || key > LAST_KEY) {
            throw new IndexOutOfBoundsException();
        }
        offered.read(draft);
        boolean bare = offered.isBare();
        if (!bare && !offered.isWhole()) {
            throw new IllegalArgumentException();
        }
        int before = bare ? 0 : offered.signatureCount();
        int growth = bare ? 1 + SIGNATURE_BYTES : SIGNATURE_BYTES;
        if (before >= SIGNATURE_LIMIT || !draft.hasRoomFor(growth)) {
            throw new UnsupportedOperationException();
        }
        if (bare) {
            draft.append(1);
        } else {
            draft.replace(offered.signedSize(), before + 1);
        }
        draft.append(key);
        draft.appendWord(offered.signatureOf(key));
        return before + 1;
    }

    public int content() {
        content.become(draft);
        return content.size();
    }

    public int tick(int n) throws IllegalArgumentException {
        if (n < 0 || n > TICK_LIMIT) {
            throw new IllegalArgumentException();
        }
        return trust.advanceClock(n);
    }

    public void begin() throws IllegalArgumentException {
        offered.read(draft);
        if (!offered.isWhole() || offered.role() != ROOT) {
            throw new IllegalArgumentException();
        }
        trust.startFrom(offered);
    }

    public int offer() throws IllegalArgumentException, IndexOutOfBoundsException, IllegalStateException,
            UnsupportedOperationException, NoSuchElementException {
        offered.read(draft);
        if (!offered.isWhole()) {
            throw new IllegalArgumentException();
        }
        if (!trust.hasGroundFor(offered.role())) {
            throw new IndexOutOfBoundsException();
        }
        if (!trust.findsSigned(offered)) {
            throw new IllegalStateException();
        }
        if (!trust.findsVersionsRight(offered)) {
            throw new UnsupportedOperationException();
        }
        if (offered.role() != ROOT && trust.findsEnded(offered)) {
            throw new NoSuchElementException();
        }
        trust.take(offered);
        return offered.role();
    }

    public int trusted(int role, boolean ends) throws IndexOutOfBoundsException {
        if (role < ROOT || role > LAST_ROLE) {
            throw new IndexOutOfBoundsException();
        }
        Document document = trust.documentOf(role);
        if (!document.isWhole()) {
            return NONE;
        }
        return ends ? document.end() : document.version();
    }

    public int seek(long w, int n) throws IllegalArgumentException, IllegalStateException {
        refuseUnlessSearchable(w, n);
        search.run(w, n);
        latestVisits = search.visitCount();
        return search.foundRole();
    }

    public int visits() {
        return latestVisits;
    }

    public int install(long w, int n) throws IllegalArgumentException, IllegalStateException, NoSuchElementException,
            UnsupportedOperationException {
        refuseUnlessSearchable(w, n);
        search.run(w, n);
        if (search.foundRole() == NONE) {
            throw new NoSuchElementException();
        }
        if (!search.foundTargetIs(content)) {
            throw new UnsupportedOperationException();
        }
        latestVisits = search.visitCount();
        installs++;
        return search.foundRole();
    }

    public int installed() {
        return installs;
    }

    private void refuseUnlessSearchable(long w, int n) {
        if (!isName(w, n)) {
            throw new IllegalArgumentException();
        }
        if (!trust.allowsSeeking()) {
            throw new IllegalStateException();
        }
    }

    private static boolean isName(long w, int n) {
        if (n < 1 || n > NAME_LIMIT) {
            return false;
        }
        for (int i = 0; i < n; i++) {
            int letter = (int) (w >>> (8 * i)) & LAST_BYTE;
            if (letter < 'a' || letter > 'z') {
                return false;
            }
        }
        return true;
    }

    /** Bytes, each 0 .. 255, up to a limit. */
    private static final class Row {
        private final int[] bytes;
        private int size;

        Row(int limit) {
            bytes = new int[limit];
        }

        int size() {
            return size;
        }

        boolean has(int i) {
            return i >= 0 && i < size;
        }

        boolean hasRoomFor(int n) {
            return n <= bytes.length - size;
        }

        /** NONE where there is no byte: that is no byte's number, so reading too far is always seen. */
        int byteAt(int i) {
            return i >= 0 && i < size ? bytes[i] : NONE;
        }

        /** Every int can stand there, so the caller must know that four bytes do. */
        int wordAt(int i) {
            if (i < 0 || i > size - WORD_BYTES) {
                return 0;
            }
            return bytes[i] << 24 | bytes[i + 1] << 16 | bytes[i + 2] << 8 | bytes[i + 3];
        }

        void replace(int i, int value) {
            if (i >= 0 && i < size) {
                bytes[i] = value & LAST_BYTE;
            }
        }

        void append(int value) {
            if (size < bytes.length) {
                bytes[size] = value & LAST_BYTE;
                size++;
            }
        }

        void appendLowest(long w, int n) {
            for (int i = 0; i < n; i++) {
                append((int) (w >>> (8 * i)));
            }
        }

        void appendWord(int value) {
            append(value >>> 24);
            append(value >>> 16);
            append(value >>> 8);
            append(value);
        }

        void keepFirst(int n) {
            if (n >= 0 && n < size) {
                size = n;
            }
        }

        void become(Row other) {
            if (other.size <= bytes.length) {
                System.arraycopy(other.bytes, 0, bytes, 0, other.size);
                size = other.size;
            }
        }

        int mixOfFirst(int n, int s) {
            int h = s * 0x9E3779B9;
            for (int i = 0; i < n && i < size; i++) {
                h = (h ^ bytes[i]) * 0x01000193;
                h = h ^ (h >>> 15);
            }
            return h;
        }

        int wholeDigest() {
            return mixOfFirst(size, 0);
        }

        /** Whether the n bytes from a place on are there, and are those from another place on in another row. */
        boolean agrees(int from, Row other, int otherFrom, int n) {
            for (int i = 0; i < n; i++) {
                int value = byteAt(from + i);
                if (value == NONE || value != other.byteAt(otherFrom + i)) {
                    return false;
                }
            }
            return true;
        }
    }

    /**
     * A document: its bytes, and where in them its parts stand. Reading goes on to the end of each part even
     * when a byte was wrong (it stays unsound then), so that no part needs to look after the ones before it.
     */
    private static final class Document {
        private static final int STAMP_VERSION_PLACE = 4;
        private static final int STAMP_DIGEST_PLACE = 5;
        private static final int ROOT_KEY_SETS = 4;
        private static final int SET_LIMIT = 4;
        private static final int ENTRY_LIMIT = 4;
        private static final int TARGET_LIMIT = 4;
        private static final int DELEGATION_LIMIT = 3;
        private static final int PREFIX_LIMIT = 3;

        private final Row row;
        private final int[] keySets;
        private final int[] versions;
        private final int[] targets;
        private final int[] delegations;
        private int place;
        private boolean sound;
        private boolean bare;
        private boolean whole;
        private int role;
        private int version;
        private int end;
        private int targetCount;
        private int delegationCount;
        private int signedSize;

        Document() {
            row = new Row(ROW_LIMIT);
            keySets = new int[ROOT_KEY_SETS];
            versions = new int[LAST_ROLE + 1];
            targets = new int[TARGET_LIMIT];
            delegations = new int[DELEGATION_LIMIT];
        }

        /** Whether there is a document, with the number of its signatures and nothing behind them. */
        boolean isWhole() {
            return whole;
        }

        /** Whether there is a signed part, and nothing behind it. */
        boolean isBare() {
            return bare;
        }

        Row row() {
            return row;
        }

        int role() {
            return role;
        }

        int version() {
            return version;
        }

        int end() {
            return end;
        }

        int signedSize() {
            return signedSize;
        }

        int signatureCount() {
            return row.byteAt(signedSize);
        }

        /** What is not whole is never asked for its parts, so they may stay. */
        void clear() {
            whole = false;
        }

        void read(Row from) {
            row.become(from);
            place = 0;
            sound = true;
            readSigned();
            signedSize = place;
            bare = sound && place == row.size();
            readSignatures();
            whole = sound && place == row.size();
        }

        /** The next byte, if it is within its bounds; else its least, so that counts and places stay small. */
        private int next(int least, int most) {
            int value = row.byteAt(place);
            if (value < least || value > most) {
                sound = false;
                return least;
            }
            place++;
            return value;
        }

        private void skip(int n) {
            for (int i = 0; i < n; i++) {
                next(0, LAST_BYTE);
            }
        }

        private void readSigned() {
            role = next(ROOT, LAST_ROLE);
            version = next(1, LAST_BYTE);
            int high = next(0, LAST_BYTE);
            end = high << 8 | next(0, LAST_BYTE);
            switch (role) {
                case ROOT:
                    readRootKeySets();
                    break;
                case STAMP:
                    next(1, LAST_BYTE);
                    skip(WORD_BYTES);
                    break;
                case SNAPSHOT:
                    readEntries();
                    break;
                default:
                    readTargets();
                    readDelegations();
                    break;
            }
        }

        private void readRootKeySets() {
            for (int i = 0; i < ROOT_KEY_SETS; i++) {
                keySets[i] = place;
                readKeySet();
            }
        }

        private void readKeySet() {
            int threshold = next(1, SET_LIMIT);
            int count = next(threshold, SET_LIMIT);
            int least = 0;
            for (int i = 0; i < count; i++) {
                least = next(least, LAST_KEY) + 1;
            }
        }

        private void readEntries() {
            for (int i = 0; i <= LAST_ROLE; i++) {
                versions[i] = NONE;
            }
            int count = next(1, ENTRY_LIMIT);
            int least = TARGETS;
            int most = TARGETS;
            for (int i = 0; i < count; i++) {
                int entryRole = next(least, most);
                int entryVersion = next(1, LAST_BYTE);
                if (entryRole <= LAST_ROLE) {
                    versions[entryRole] = entryVersion;
                }
                least = entryRole + 1;
                most = LAST_ROLE;
            }
        }

        private void readTargets() {
            targetCount = next(0, TARGET_LIMIT);
            for (int i = 0; i < targetCount; i++) {
                targets[i] = place;
                readLetters(1, NAME_LIMIT);
                skip(1 + WORD_BYTES);
                sound = sound && !isNamedAsEarlier(i);
            }
        }

        private void readLetters(int least, int most) {
            int count = next(least, most);
            for (int i = 0; i < count; i++) {
                next('a', 'z');
            }
        }

        private boolean isNamedAsEarlier(int target) {
            for (int i = 0; i < target; i++) {
                if (row.agrees(targets[i], row, targets[target], 1 + row.byteAt(targets[i]))) {
                    return true;
                }
            }
            return false;
        }

        private void readDelegations() {
            delegationCount = next(0, DELEGATION_LIMIT);
            int roles = 0;
            for (int i = 0; i < delegationCount; i++) {
                delegations[i] = place;
                int delegate = next(FIRST_DELEGATE, LAST_ROLE);
                sound = sound && (roles >> delegate & 1) == 0;
                roles |= 1 << delegate;
                next(0, 1);
                readKeySet();
                readLetters(0, PREFIX_LIMIT);
            }
        }

        private void readSignatures() {
            int count = next(0, SIGNATURE_LIMIT);
            for (int i = 0; i < count; i++) {
                next(0, LAST_KEY);
                skip(WORD_BYTES);
            }
        }

        int signatureOf(int key) {
            return row.mixOfFirst(signedSize, key + 1);
        }

        private boolean hasSignatureOf(int key) {
            int signature = signatureOf(key);
            int count = signatureCount();
            for (int i = 0; i < count; i++) {
                int from = signedSize + 1 + SIGNATURE_BYTES * i;
                if (row.byteAt(from) == key && row.wordAt(from + 1) == signature) {
                    return true;
                }
            }
            return false;
        }

        /** Whether the threshold signed it, of the key set that stands at a place of the row that vouches. */
        boolean isSignedAsAsked(Row voucher, int keySet) {
            int threshold = voucher.byteAt(keySet);
            int keys = voucher.byteAt(keySet + 1);
            int signers = 0;
            for (int i = 0; i < keys; i++) {
                if (hasSignatureOf(voucher.byteAt(keySet + 2 + i))) {
                    signers++;
                }
            }
            return signers >= threshold;
        }

        /** As a root: whether it vouches for a document of one of the four roles that it has key sets for. */
        boolean rootVouchesFor(Document document, int asRole) {
            return asRole >= 0 && asRole < ROOT_KEY_SETS && document.isSignedAsAsked(row, keySets[asRole]);
        }

        /** As a root: whether another one has the same keys and the same threshold for a role. */
        boolean hasKeySetOf(Document root, int forRole) {
            if (forRole < 0 || forRole >= ROOT_KEY_SETS) {
                return false;
            }
            int from = keySets[forRole];
            return row.agrees(from, root.row, root.keySets[forRole], 2 + row.byteAt(from + 1));
        }

        int stampedVersion() {
            return row.byteAt(STAMP_VERSION_PLACE);
        }

        int stampedDigest() {
            return row.wordAt(STAMP_DIGEST_PLACE);
        }

        /** As a snapshot: what it says for a role; NONE if it says nothing. */
        int versionFor(int entryRole) {
            return entryRole >= 0 && entryRole <= LAST_ROLE ? versions[entryRole] : NONE;
        }

        /** The place of the length of the target with a name; NONE if there is none. */
        int targetNamed(Row name) {
            for (int i = 0; i < targetCount; i++) {
                int from = targets[i];
                if (row.byteAt(from) == name.size() && name.agrees(0, row, from + 1, name.size())) {
                    return from + 1 + name.size();
                }
            }
            return NONE;
        }

        int delegationCount() {
            return delegationCount;
        }

        private int delegationPlace(int i) {
            return i >= 0 && i < delegationCount ? delegations[i] : NONE;
        }

        int delegateOf(int i) {
            return row.byteAt(delegationPlace(i));
        }

        boolean isFinal(int i) {
            return row.byteAt(delegationPlace(i) + 1) == 1;
        }

        int delegatedKeySet(int i) {
            return delegationPlace(i) + 2;
        }

        boolean delegates(int i, Row name) {
            int keySet = delegatedKeySet(i);
            int prefix = keySet + 2 + row.byteAt(keySet + 1);
            return name.agrees(0, row, prefix + 1, row.byteAt(prefix));
        }
    }

    /** The clock, and the trusted document of each role; one that is not whole stands for none. */
    private static final class Trust {
        private final Document[] documents;
        private final Document none;
        private int clock;

        Trust() {
            none = new Document();
            documents = new Document[LAST_ROLE + 1];
            for (int role = ROOT; role <= LAST_ROLE; role++) {
                documents[role] = new Document();
            }
        }

        Document documentOf(int role) {
            return role >= ROOT && role <= LAST_ROLE ? documents[role] : none;
        }

        int advanceClock(int n) {
            clock += n;
            return clock;
        }

        boolean findsEnded(Document document) {
            return document.end() <= clock;
        }

        private boolean isInForce(int role) {
            Document document = documentOf(role);
            return document.isWhole() && !findsEnded(document);
        }

        boolean isFresh(int role) {
            return isInForce(role) && documentOf(role).version() == documentOf(SNAPSHOT).versionFor(role);
        }

        boolean allowsSeeking() {
            return isInForce(ROOT) && isInForce(STAMP) && isInForce(SNAPSHOT) && isFresh(TARGETS);
        }

        void startFrom(Document root) {
            for (int role = ROOT; role <= LAST_ROLE; role++) {
                documentOf(role).clear();
            }
            documentOf(ROOT).read(root.row());
        }

        /** Whether all is there, and has not ended, that a document of a role is measured by. */
        boolean hasGroundFor(int role) {
            switch (role) {
                case ROOT:
                    return documentOf(ROOT).isWhole();
                case STAMP:
                    return isInForce(ROOT);
                case SNAPSHOT:
                    return isInForce(ROOT) && isInForce(STAMP);
                default:
                    return isInForce(ROOT) && isInForce(SNAPSHOT) && documentOf(SNAPSHOT).versionFor(role) != NONE;
            }
        }

        boolean findsSigned(Document offered) {
            int role = offered.role();
            if (role >= FIRST_DELEGATE) {
                return true;
            }
            return documentOf(ROOT).rootVouchesFor(offered, role)
                    && (role != ROOT || offered.rootVouchesFor(offered, ROOT));
        }

        boolean findsVersionsRight(Document offered) {
            switch (offered.role()) {
                case ROOT:
                    return offered.version() == documentOf(ROOT).version() + 1;
                case STAMP:
                    return isNoOlderStamp(offered);
                case SNAPSHOT:
                    return isAsStamped(offered) && isNoOlderSnapshot(offered);
                default:
                    return offered.version() == documentOf(SNAPSHOT).versionFor(offered.role());
            }
        }

        private boolean isNoOlderStamp(Document offered) {
            Document stamp = documentOf(STAMP);
            return !stamp.isWhole()
                    || offered.version() >= stamp.version() && offered.stampedVersion() >= stamp.stampedVersion();
        }

        private boolean isAsStamped(Document offered) {
            Document stamp = documentOf(STAMP);
            return offered.version() == stamp.stampedVersion()
                    && offered.row().wholeDigest() == stamp.stampedDigest();
        }

        /** A role that a snapshot does not have counts as NONE here, which is below every version. */
        private boolean isNoOlderSnapshot(Document offered) {
            Document snapshot = documentOf(SNAPSHOT);
            if (!snapshot.isWhole()) {
                return true;
            }
            for (int role = TARGETS; role <= LAST_ROLE; role++) {
                if (offered.versionFor(role) < snapshot.versionFor(role)) {
                    return false;
                }
            }
            return true;
        }

        void take(Document offered) {
            if (offered.role() == ROOT && changesOnlineKeys(offered)) {
                documentOf(STAMP).clear();
                documentOf(SNAPSHOT).clear();
            }
            documentOf(offered.role()).read(offered.row());
        }

        private boolean changesOnlineKeys(Document offered) {
            Document root = documentOf(ROOT);
            return !root.hasKeySetOf(offered, STAMP) || !root.hasKeySetOf(offered, SNAPSHOT);
        }
    }

    /** The search for a name, from the TARGETS on; what it found stays until it runs anew. */
    private static final class Search {
        private static final int DEEPEST = LAST_ROLE - TARGETS;

        private final Trust trust;
        private final Row name;
        private int visitedRoles;
        private int visitCount;
        private int foundRole;
        private int foundPlace;
        private boolean over;

        Search(Trust trust) {
            this.trust = trust;
            name = new Row(NAME_LIMIT);
        }

        int visitCount() {
            return visitCount;
        }

        int foundRole() {
            return foundRole;
        }

        boolean foundTargetIs(Row content) {
            Row vouching = trust.documentOf(foundRole).row();
            return vouching.byteAt(foundPlace) == content.size()
                    && vouching.wordAt(foundPlace + 1) == content.wholeDigest();
        }

        void run(long w, int n) {
            name.keepFirst(0);
            name.appendLowest(w, n);
            visitedRoles = 0;
            visitCount = 0;
            foundRole = NONE;
            over = false;
            visit(TARGETS, 0);
        }

        /** No role is visited twice, so there are never more levels than roles below the TARGETS. */
        private void visit(int role, int depth) {
            if (depth > DEEPEST) {
                return;
            }
            visitedRoles |= 1 << role;
            visitCount++;
            Document document = trust.documentOf(role);
            foundPlace = document.targetNamed(name);
            if (foundPlace != NONE) {
                foundRole = role;
                over = true;
                return;
            }
            for (int i = 0; i < document.delegationCount() && !over; i++) {
                if (mayFollow(document, i)) {
                    visit(document.delegateOf(i), depth + 1);
                    over = over || document.isFinal(i);
                }
            }
        }

        private boolean mayFollow(Document document, int delegation) {
            int role = document.delegateOf(delegation);
            return document.delegates(delegation, name)
                    && (visitedRoles >> role & 1) == 0
                    && trust.isFresh(role)
                    && trust.documentOf(role).isSignedAsAsked(document.row(), document.delegatedKeySet(delegation));
        }
    }
}
