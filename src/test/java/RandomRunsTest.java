import java.util.ArrayList;
import java.util.List;
import java.util.Map;
import java.util.Random;
import java.util.TreeMap;
import java.util.function.LongSupplier;

/** Random runs of at most 512 calls, the same each time: every answer must be that of the model. */
public final class RandomRunsTest {
    private static final int RUNS = 6000;
    private static final int CALLS = 512;
    private static final String[] NAMES = {"a", "b", "ab", "abc", "abcd", "ba", "z"};
    private static final String[] PREFIXES = {"", "", "a", "ab", "b", "abc"};

    private final Checks checks;
    private final Map<String, Integer> tally;
    private final Random random;
    private final int run;
    private final TrustedUpdates x = new TrustedUpdates();
    private final Model model = new Model();
    private final int[] versions = new int[7];
    private final List<Doc> kept = new ArrayList<>();
    private int[][] sets = {Doc.keys(1, 0), Doc.keys(1, 1), Doc.keys(1, 2), Doc.keys(1, 3)};
    private int clock;
    private int calls;
    private boolean right = true;

    private RandomRunsTest(Checks checks, Map<String, Integer> tally, int run) {
        this.checks = checks;
        this.tally = tally;
        this.run = run;
        random = new Random(run);
    }

    public static void main(String[] args) {
        Checks checks = new Checks();
        Map<String, Integer> tally = new TreeMap<>();
        for (int run = 0; run < RUNS; run++) {
            new RandomRunsTest(checks, tally, run).play();
        }
        for (String what : new String[] {"offer 0", "offer 1", "offer 2", "offer 3", "offer 4", "offer 5", "offer 6",
            "seek 3", "seek 4", "seek 5", "seek 6", "seek -1", "install 3", "install 4", "visits 4",
            "offer throws.IllegalArgumentException", "offer throws.IndexOutOfBoundsException",
            "offer throws.IllegalStateException", "offer throws.UnsupportedOperationException",
            "offer throws.NoSuchElementException", "install throws.UnsupportedOperationException",
            "install throws.NoSuchElementException", "seek throws.IllegalStateException"}) {
            checks.due("the runs reach " + what, tally.getOrDefault(what, 0) >= 20, true);
        }
        checks.finish("RandomRunsTest");
    }

    private void play() {
        for (int i = 0; i < 7; i++) {
            versions[i] = 1;
        }
        while (calls < CALLS && right) {
            step();
        }
    }

    private void compare(String call, LongSupplier program, LongSupplier due) {
        if (calls >= CALLS || !right) {
            return;
        }
        calls++;
        String got = Checks.answerOf(program);
        String want = Checks.answerOf(due);
        checks.dueText("run " + run + ", call " + calls + ": " + call, got, want);
        right = got.equals(want);
        tally.merge(call.split("\\(")[0] + " " + (want.length() > 3 && !want.startsWith("t") ? "n" : want), 1, Integer::sum);
    }

    private boolean oneIn(int n) {
        return random.nextInt(n) == 0;
    }

    private int pick(int... values) {
        return values[random.nextInt(values.length)];
    }

    private void step() {
        switch (random.nextInt(20)) {
            case 0, 1 -> nextRoot();
            case 2, 3, 4 -> stampAndSnapshot();
            case 5, 6 -> targets(3);
            case 7, 8, 9 -> targets(pick(4, 5, 6));
            case 10, 11, 12 -> seek();
            case 13, 14 -> installs();
            case 15 -> ask();
            case 16 -> olderOne();
            case 17 -> oddDraft();
            case 18 -> tick();
            default -> signed();
        }
    }

    private void draft(Doc doc) {
        compare("cut(0)", () -> b(x.cut(0)), () -> b(model.cut(0)));
        for (int i = 0; i < doc.bytes.length; i += 8) {
            int n = Math.min(8, doc.bytes.length - i);
            long w = 0;
            for (int j = n - 1; j >= 0; j--) {
                w = w << 8 | doc.bytes[i + j];
            }
            long v = w;
            compare("put(" + v + ", " + n + ")", () -> b(x.put(v, n)), () -> b(model.put(v, n)));
        }
    }

    private static long b(boolean value) {
        return value ? 1 : 0;
    }

    private void offer(Doc doc) {
        boolean spoiled = oneIn(12);
        Doc brought = spoiled ? doc.altered(random.nextInt(doc.bytes.length), random.nextInt(12)) : doc;
        kept.add(brought);
        draft(brought);
        if (oneIn(30)) {
            compare("put(0, 1)", () -> b(x.put(0, 1)), () -> b(model.put(0, 1)));
        }
        compare("offer()", x::offer, model::offer);
        if (oneIn(4)) {
            int role = doc.bytes[0];
            compare("trusted(" + role + ", false)", () -> x.trusted(role, false), () -> model.trusted(role, false));
        }
    }

    private int end() {
        return oneIn(12) ? Math.max(0, clock + random.nextInt(3) - 1) : clock + 3 + random.nextInt(60);
    }

    /** Mostly the signers that a set asks for, now and then too few, others, or one twice. */
    private int[] signers(int[]... asked) {
        List<Integer> all = new ArrayList<>();
        for (int[] set : asked) {
            for (int i = 0; i < set[1]; i++) {
                if (!oneIn(12)) {
                    all.add(set[2 + i]);
                }
            }
        }
        if (oneIn(5)) {
            all.add(random.nextInt(10));
        }
        while (all.size() > 6) {
            all.remove(random.nextInt(all.size()));
        }
        return all.stream().mapToInt(Integer::intValue).toArray();
    }

    private int[] keySet() {
        int count = pick(1, 1, 1, 2, 2, 3, 4);
        int[] keys = random.ints(0, 10).distinct().limit(count).sorted().toArray();
        return Doc.keys(1 + random.nextInt(count), keys);
    }

    private void nextRoot() {
        int[][] next = sets.clone();
        if (oneIn(2)) {
            next[random.nextInt(4)] = keySet();
        }
        boolean begins = model.trusted(0, false) < 0 || oneIn(15);
        int version = begins ? pick(1, 1, 2, 250, 254) : model.trusted(0, false) + (oneIn(6) ? pick(0, 2, -1) : 1);
        Doc part = Doc.root(version & 255, oneIn(10) ? end() : clock + 200, next[0], next[1], next[2], next[3]);
        Doc doc = part.signed(signers(sets[0], next[0]));
        if (begins) {
            draft(doc);
            compare("begin()", () -> begin(), model::begin);
            sets = model.trusted(0, false) == version ? next : sets;
        } else {
            int before = model.trusted(0, false);
            offer(doc);
            sets = model.trusted(0, false) != before ? next : sets;
        }
    }

    private int begin() {
        x.begin();
        return 0;
    }

    private void stampAndSnapshot() {
        int snapshotVersion = Math.max(1, model.trusted(2, false) + pick(0, 1, 1, 1, 1, 2, -1)) & 255;
        List<Integer> entries = new ArrayList<>();
        for (int role = 3; role <= 6; role++) {
            versions[role] = Math.min(255, versions[role] + (oneIn(6) ? 1 : 0));
            if (role == 3 || !oneIn(8)) {
                entries.add(role);
                entries.add(Math.max(1, versions[role] - (oneIn(25) ? 1 : 0)));
            }
        }
        Doc snapshot = Doc.snapshot(snapshotVersion, end(), entries.stream().mapToInt(Integer::intValue).toArray())
                .signed(signers(sets[2]));
        int stampVersion = Math.max(1, model.trusted(1, false) + pick(0, 1, 1, 1, 2, -1)) & 255;
        if (oneIn(3)) {
            draft(snapshot);
            compare("content()", x::content, model::content);
        }
        Doc stamp = Doc.stamp(stampVersion, end(), oneIn(15) ? pick(1, 2, 3) : snapshotVersion,
                snapshot.digest() + (oneIn(15) ? 1 : 0));
        offer(stamp.signed(signers(sets[1])));
        offer(snapshot);
    }

    private void targets(int role) {
        int[][] targets = new int[random.nextInt(oneIn(10) ? 5 : 3)][];
        int start = random.nextInt(NAMES.length);
        for (int i = 0; i < targets.length; i++) {
            String name = NAMES[(start + i) % NAMES.length];
            targets[i] = Doc.targetOf(oneIn(20) ? NAMES[0] : name, contentOf(name));
        }
        int[][] delegations = new int[role == 3 ? pick(1, 2, 3) : pick(0, 0, 1, 2)][];
        int first = random.nextInt(3);
        for (int i = 0; i < delegations.length; i++) {
            int delegate = oneIn(20) ? pick(3, 4, 5, 6, 7) : 4 + (first + i) % 3;
            int[] keys = oneIn(4) ? keySet() : Doc.keys(1, delegate, 9);
            delegations[i] = Doc.delegation(delegate, oneIn(4) ? 1 : 0, keys, PREFIXES[random.nextInt(PREFIXES.length)]);
        }
        Doc part = Doc.targets(role, Math.max(1, versions[role] - (oneIn(15) ? 1 : 0)), end(), targets, delegations);
        int[] signers = role == 3 ? signers(sets[3]) : signers(Doc.keys(1, role));
        offer(part.signed(signers));
    }

    private static int[] contentOf(String name) {
        return new int[] {name.length(), name.charAt(0)};
    }

    private void seek() {
        String name = NAMES[random.nextInt(NAMES.length)];
        long w = Doc.name(name) | (oneIn(10) ? (long) random.nextInt(256) << 8 * random.nextInt(8) : 0);
        int n = oneIn(20) ? random.nextInt(8) - 1 : name.length();
        compare("seek(" + w + ", " + n + ")", () -> x.seek(w, n), () -> model.seek(w, n));
        compare("visits()", x::visits, model::visits);
    }

    private void installs() {
        String name = NAMES[random.nextInt(NAMES.length)];
        long w = Doc.name(name);
        draft(new Doc(contentOf(oneIn(4) ? "q" : name)));
        if (!oneIn(5)) {
            compare("content()", x::content, model::content);
        }
        compare("install(" + w + ")", () -> x.install(w, name.length()), () -> model.install(w, name.length()));
        compare("visits()", x::visits, model::visits);
        compare("installed()", x::installed, model::installed);
    }

    private void ask() {
        int i = random.nextInt(125) - 2;
        compare("at(" + i + ")", () -> x.at(i), () -> model.at(i));
        int role = random.nextInt(9) - 1;
        boolean ends = random.nextBoolean();
        compare("trusted(" + role + ", " + ends + ")", () -> x.trusted(role, ends), () -> model.trusted(role, ends));
        compare("length()", x::length, model::length);
        int s = random.nextInt();
        compare("mix(" + s + ")", () -> x.mix(s), () -> model.mix(s));
    }

    private void olderOne() {
        if (!kept.isEmpty()) {
            offer(kept.get(random.nextInt(kept.size())));
        }
    }

    private void oddDraft() {
        int i = random.nextInt(40) - 2;
        int v = random.nextInt(20) - 3;
        switch (random.nextInt(4)) {
            case 0 -> compare("alter(" + i + ", " + v + ")", () -> b(x.alter(i, v)), () -> b(model.alter(i, v)));
            case 1 -> compare("cut(" + i + ")", () -> b(x.cut(i)), () -> b(model.cut(i)));
            case 2 -> compare("digest()", () -> b(x.digest()), () -> b(model.digest()));
            default -> compare("put(" + i + ", " + v + ")", () -> b(x.put(i, v)), () -> b(model.put(i, v)));
        }
        compare("offer()", x::offer, model::offer);
        compare("begin()", this::begin, model::begin);
    }

    private void tick() {
        int n = oneIn(10) ? pick(-1, 10001, 0) : random.nextInt(12);
        compare("tick(" + n + ")", () -> x.tick(n), () -> model.tick(n));
        clock = model.tick(0);
    }

    private void signed() {
        if (!kept.isEmpty() && oneIn(2)) {
            draft(kept.get(random.nextInt(kept.size())));
        }
        int key = random.nextInt(12) - 1;
        compare("sign(" + key + ")", () -> x.sign(key), () -> model.sign(key));
        compare("length()", x::length, model::length);
        compare("mix(0)", () -> x.mix(0), () -> model.mix(0));
        compare("offer()", x::offer, model::offer);
    }
}
