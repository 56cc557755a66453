import java.util.ArrayList;
import java.util.List;
import java.util.Random;

/**
 * Every way in which TARGETS and the three DELEGATES can delegate to one another, each list of roles in each order:
 * 65,536 graphs. Which delegations are final, their keys and prefixes, who signed and who has the target is drawn by
 * lot, the same each time. What seek and visits answer must be what a walk over the graph itself tells.
 */
public final class DelegationGraphsTest {
    private static final Checks CHECKS = new Checks();
    private static final int GRAPHS = 16 * 16 * 16 * 16;
    private static final int GRAPHS_A_CLIENT = 12;
    private static final int OTHER_KEY = 9;
    private static final String[] NAMES = {"a", "ba"};
    private static final String[] PREFIXES = {"", "", "", "a", "b", "ba", "c"};
    private static final List<List<Integer>> LISTS = new ArrayList<>();

    private record Way(int to, boolean last, boolean asksOtherKey, String prefix) {
    }

    private record Node(int role, List<String> names, List<Way> ways, boolean signed, boolean signedByOther) {
        Doc document() {
            int[][] targets = names.stream().map(name -> Doc.targetOf(name)).toArray(int[][]::new);
            int[][] delegations = new int[ways.size()][];
            for (int i = 0; i < delegations.length; i++) {
                Way way = ways.get(i);
                int[] keys = way.asksOtherKey ? Doc.keys(2, way.to, OTHER_KEY) : Doc.keys(1, way.to);
                delegations[i] = Doc.delegation(way.to, way.last ? 1 : 0, keys, way.prefix);
            }
            Doc part = Doc.targets(role, 1, World.END, targets, delegations);
            return signedByOther ? signed ? part.signed(role, OTHER_KEY) : part.signed(OTHER_KEY)
                    : signed ? part.signed(role) : part.signed();
        }

        boolean isSignedFor(Way way) {
            return signed && (signedByOther || !way.asksOtherKey);
        }
    }

    /** One walk, told as the document tells it. */
    private static final class Walk {
        private final Node[] graph;
        private final String name;
        private final List<Integer> visited = new ArrayList<>();
        private int found = TrustedUpdates.NONE;

        Walk(Node[] graph, String name) {
            this.graph = graph;
            this.name = name;
            visit(graph[0]);
        }

        /** Whether the walk goes on behind it. */
        private boolean visit(Node node) {
            visited.add(node.role);
            if (node.names.contains(name)) {
                found = node.role;
                return false;
            }
            for (Way way : node.ways) {
                Node next = graph[way.to - 3];
                if (name.startsWith(way.prefix) && !visited.contains(way.to) && next.isSignedFor(way)
                        && (!visit(next) || way.last)) {
                    return false;
                }
            }
            return true;
        }
    }

    public static void main(String[] args) {
        listsFrom(new ArrayList<>());
        CHECKS.due("the lists of roles", LISTS.size(), 16);
        int[] told = new int[7];
        TrustedUpdates x = null;
        for (int number = 0; number < GRAPHS; number++) {
            if (number % GRAPHS_A_CLIENT == 0) {
                x = World.withSnapshot(3, 4, 5, 6).x;
            }
            compare(x, number, told);
        }
        for (int role = 3; role <= 6; role++) {
            CHECKS.due("enough found in role " + role, told[role] > 1000, true);
        }
        CHECKS.due("enough not found", told[0] > 1000, true);
        CHECKS.finish("DelegationGraphsTest");
    }

    private static void listsFrom(List<Integer> first) {
        LISTS.add(first);
        for (int role = 4; role <= 6; role++) {
            if (!first.contains(role)) {
                List<Integer> longer = new ArrayList<>(first);
                longer.add(role);
                listsFrom(longer);
            }
        }
    }

    private static void compare(TrustedUpdates x, int number, int[] told) {
        Node[] graph = graph(number);
        for (Node node : graph) {
            CHECKS.due("graph " + number + ": offer()", node.document().offerTo(x), node.role);
        }
        for (String name : NAMES) {
            Walk walk = new Walk(graph, name);
            String call = "graph " + number + ": seek(" + name + ")";
            CHECKS.due(call, x.seek(Doc.name(name), name.length()), walk.found);
            CHECKS.due(call + ": visits()", x.visits(), walk.visited.size());
            told[Math.max(0, walk.found)]++;
        }
    }

    private static Node[] graph(int number) {
        Random random = new Random(number);
        Node[] graph = new Node[4];
        for (int i = 0; i < graph.length; i++) {
            List<Way> ways = new ArrayList<>();
            for (int to : LISTS.get(number >> 4 * i & 15)) {
                String prefix = PREFIXES[random.nextInt(PREFIXES.length)];
                ways.add(new Way(to, random.nextInt(4) == 0, random.nextInt(4) == 0, prefix));
            }
            List<String> names = new ArrayList<>();
            for (String name : NAMES) {
                if (random.nextInt(i == 0 ? 12 : 4) == 0) {
                    names.add(name);
                }
            }
            boolean signed = i == 0 || random.nextInt(6) > 0;
            graph[i] = new Node(3 + i, names, ways, signed, random.nextInt(4) > 0);
        }
        return graph;
    }

    private DelegationGraphsTest() {
    }
}
