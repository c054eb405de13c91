import java.util.ArrayList;
import java.util.Arrays;
import java.util.Comparator;
import java.util.HashMap;
import java.util.HashSet;
import java.util.List;
import java.util.Map;
import java.util.Set;
import java.util.TreeMap;
import java.util.TreeSet;

/**
 * The document in its plainest form, slow and unlike TreeStore inside: what was told is kept as a list, and what
 * is the same, equal or alike is found anew for every call.
 */
final class Model {
    private static final Comparator<Integer> BY_FEATURE =
            Comparator.comparing((Integer f) -> f < 0).thenComparing(f -> Math.abs(f));

    private static final class Node {
        int kind;
        int value;
        boolean saidNeeded;
        TreeMap<Integer, Integer> parts = new TreeMap<>(BY_FEATURE);
    }

    private TreeMap<Integer, Node> nodes = new TreeMap<>();
    private List<int[]> told = new ArrayList<>();
    private TreeMap<Integer, Integer> pushed = new TreeMap<>(BY_FEATURE);
    private TreeSet<Integer> touched = new TreeSet<>();
    private Set<Integer> marked = new HashSet<>();
    /** The leader of each node, as what was told makes it. */
    private Map<Integer, Integer> leaders = new HashMap<>();

    private int make(int kind, int value) {
        int n = 0;
        while (nodes.containsKey(n)) {
            n++;
        }
        Node node = new Node();
        node.kind = kind;
        node.value = value;
        nodes.put(n, node);
        leaders.put(n, n);
        marked.clear();
        return n;
    }

    int variable() {
        return make(0, 0);
    }

    int number(int v) {
        return make(1, v);
    }

    int atom(int k) {
        return k < 0 || k > 8191 ? -1 : make(2, k);
    }

    int push(int f, int node) {
        boolean feature = f >= 1 && f <= 9999 || f <= -1 && f >= -8192;
        if (!nodes.containsKey(node) || !feature || pushed.containsKey(f)) {
            return -1;
        }
        if (pushed.size() == 255) {
            return -2;
        }
        pushed.put(f, node);
        return pushed.size();
    }

    int record(int label) {
        return label < 0 || label > 8191 || pushed.isEmpty() ? -1 : makeWithFields(3, label);
    }

    int thing(int code) {
        return code < 0 ? -1 : makeWithFields(4, code);
    }

    private int makeWithFields(int kind, int value) {
        int n = make(kind, value);
        nodes.get(n).parts.putAll(pushed);
        pushed.clear();
        return n;
    }

    boolean tell(int x, int y) {
        Map<Integer, Integer> after = nodes.containsKey(x) && nodes.containsKey(y) ? leadersWith(x, y) : null;
        if (after == null) {
            return false;
        }
        touched = changed(after);
        told.add(new int[] {x, y});
        leaders = after;
        marked.clear();
        return true;
    }

    /** The leaders when x and y are told, too, or null when that does not hold. */
    private Map<Integer, Integer> leadersWith(int x, int y) {
        List<int[]> all = new ArrayList<>(told);
        all.add(new int[] {x, y});
        Map<Integer, Integer> lead = new HashMap<>();
        for (int n : nodes.keySet()) {
            lead.put(n, n);
        }
        boolean changes = true;
        while (changes) {
            changes = false;
            for (int[] equation : all) {
                changes |= merge(lead, equation[0], equation[1]);
            }
            changes |= mergeParts(lead);
        }
        return holds(lead) ? lead : null;
    }

    private static boolean merge(Map<Integer, Integer> lead, int a, int b) {
        int low = Math.min(lead.get(a), lead.get(b));
        int high = Math.max(lead.get(a), lead.get(b));
        if (low == high) {
            return false;
        }
        lead.replaceAll((n, leader) -> leader == high ? low : leader);
        return true;
    }

    private boolean mergeParts(Map<Integer, Integer> lead) {
        boolean changes = false;
        for (int a : nodes.keySet()) {
            for (int b : nodes.keySet()) {
                if (a < b && nodes.get(a).kind == 3 && nodes.get(b).kind == 3 && same(lead, a, b)) {
                    for (int f : nodes.get(a).parts.keySet()) {
                        Integer other = nodes.get(b).parts.get(f);
                        changes |= other != null && merge(lead, nodes.get(a).parts.get(f), other);
                    }
                }
            }
        }
        return changes;
    }

    private static boolean same(Map<Integer, Integer> lead, int a, int b) {
        return lead.get(a).intValue() == lead.get(b).intValue();
    }

    private boolean holds(Map<Integer, Integer> lead) {
        for (int a : nodes.keySet()) {
            for (int b : nodes.keySet()) {
                if (a < b && same(lead, a, b) && clash(nodes.get(a), nodes.get(b))) {
                    return false;
                }
            }
        }
        return true;
    }

    private static boolean clash(Node a, Node b) {
        if (a.kind == 0 || b.kind == 0) {
            return false;
        }
        return a.kind == 4 || b.kind == 4 || !sameShape(a, b);
    }

    private static boolean sameShape(Node a, Node b) {
        return a.kind == b.kind && a.value == b.value && a.parts.keySet().equals(b.parts.keySet());
    }

    private TreeSet<Integer> changed(Map<Integer, Integer> after) {
        TreeSet<Integer> result = new TreeSet<>();
        for (int a : nodes.keySet()) {
            if (leaders.get(a) == a && what(a).kind == 0) {
                for (int b : nodes.keySet()) {
                    if (same(after, a, b) && !same(leaders, a, b)) {
                        result.add(a);
                    }
                }
            }
        }
        return result;
    }

    /** What a node is: one of the same that is no variable, if there is one. */
    private Node what(int x) {
        for (int n : nodes.keySet()) {
            if (same(leaders, n, x) && nodes.get(n).kind != 0) {
                return nodes.get(n);
            }
        }
        return nodes.get(leaders.get(x));
    }

    int ask(int x, int y) {
        if (!nodes.containsKey(x) || !nodes.containsKey(y)) {
            return -2;
        }
        if (leadersWith(x, y) == null) {
            return 0;
        }
        return equalNow(x, y) ? 1 : -1;
    }

    /** Equal unless something tells them apart: pairs are struck out until no more can be. */
    private boolean equalNow(int x, int y) {
        Integer[] names = nodes.keySet().toArray(new Integer[0]);
        Map<Integer, Integer> at = new HashMap<>();
        Node[] whats = new Node[names.length];
        for (int i = 0; i < names.length; i++) {
            at.put(names[i], i);
            whats[i] = what(names[i]);
        }
        boolean[][] equal = new boolean[names.length][names.length];
        for (boolean[] row : equal) {
            Arrays.fill(row, true);
        }
        boolean changes = true;
        while (changes) {
            changes = false;
            for (int i = 0; i < names.length; i++) {
                for (int j = 0; j < names.length; j++) {
                    if (equal[i][j] && !same(leaders, names[i], names[j]) && toldApart(whats[i], whats[j], equal, at)) {
                        equal[i][j] = false;
                        changes = true;
                    }
                }
            }
        }
        return equal[at.get(x)][at.get(y)];
    }

    private static boolean toldApart(Node a, Node b, boolean[][] equal, Map<Integer, Integer> at) {
        if (a.kind == 0 || b.kind == 0 || a.kind == 4 || b.kind == 4 || !sameShape(a, b)) {
            return true;
        }
        for (int f : a.parts.keySet()) {
            if (!equal[at.get(a.parts.get(f))][at.get(b.parts.get(f))]) {
                return true;
            }
        }
        return false;
    }

    int hangs(int x, int y, int i) {
        return ask(x, y) == -1 ? numbered(changed(leadersWith(x, y)), i) : -1;
    }

    private static int numbered(TreeSet<Integer> all, int i) {
        return i < 0 || i >= all.size() ? -1 : new ArrayList<>(all).get(i);
    }

    boolean need(int x) {
        if (!nodes.containsKey(x) || needed(x)) {
            return false;
        }
        nodes.get(x).saidNeeded = true;
        touched = new TreeSet<>(Set.of(leaders.get(x)));
        return true;
    }

    private boolean needed(int x) {
        for (int n : nodes.keySet()) {
            if (same(leaders, n, x) && (nodes.get(n).saidNeeded || nodes.get(n).kind != 0)) {
                return true;
            }
        }
        return false;
    }

    int touched(int i) {
        return numbered(touched, i);
    }

    private Integer follow(int x, long path) {
        Integer at = nodes.containsKey(x) ? leaders.get(x) : null;
        long rest = path;
        while (at != null && rest % 256 != 0) {
            List<Integer> parts = new ArrayList<>(what(at).parts.values());
            int which = (int) Long.remainderUnsigned(rest, 256L);
            at = which > parts.size() ? null : leaders.get(parts.get(which - 1));
            rest = Long.divideUnsigned(rest, 256L);
        }
        return at;
    }

    int look(int x, long path, int what) {
        Integer at = follow(x, path);
        if (at == null || what < 0 || what > 4) {
            return -1;
        }
        Node node = what(at);
        int[] answers = {node.kind, node.value, node.parts.size(), at, needed(at) ? 1 : 0};
        return answers[what];
    }

    int feature(int x, long path, int i) {
        Integer at = follow(x, path);
        if (at == null || i < 0 || i >= what(at).parts.size()) {
            return 0;
        }
        return new ArrayList<>(what(at).parts.keySet()).get(i);
    }

    int part(int x, int f) {
        boolean there = nodes.containsKey(x) && f != 0 && what(x).parts.containsKey(f);
        return there ? leaders.get(what(x).parts.get(f)) : -1;
    }

    int set(int x, int f, int y) {
        boolean there = nodes.containsKey(x) && nodes.containsKey(y) && what(x).kind == 4;
        if (!there || f == 0 || !what(x).parts.containsKey(f)) {
            return -1;
        }
        marked.clear();
        return leaders.get(what(x).parts.put(f, y));
    }

    boolean like(int x, int y) {
        if (!nodes.containsKey(x) || !nodes.containsKey(y)) {
            return false;
        }
        Map<Integer, Integer> way = new HashMap<>();
        Set<List<Integer>> seen = new HashSet<>();
        List<List<Integer>> waiting = new ArrayList<>();
        waiting.add(List.of(leaders.get(x), leaders.get(y)));
        while (!waiting.isEmpty()) {
            List<Integer> pair = waiting.remove(waiting.size() - 1);
            if (seen.add(pair)) {
                Node a = what(pair.get(0));
                Node b = what(pair.get(1));
                if (!sameShape(a, b) || needed(pair.get(0)) != needed(pair.get(1))) {
                    return false;
                }
                if ((a.kind == 0 || a.kind == 4) && !fits(way, pair)) {
                    return false;
                }
                for (int f : a.parts.keySet()) {
                    waiting.add(List.of(leaders.get(a.parts.get(f)), leaders.get(b.parts.get(f))));
                }
            }
        }
        return true;
    }

    private static boolean fits(Map<Integer, Integer> way, List<Integer> pair) {
        if (way.containsKey(pair.get(0))) {
            return way.get(pair.get(0)).equals(pair.get(1));
        }
        boolean taken = way.containsValue(pair.get(1));
        way.put(pair.get(0), pair.get(1));
        return !taken;
    }

    int mark(int x) {
        if (!nodes.containsKey(x)) {
            return -1;
        }
        marked.add(x);
        int before = 0;
        while (before != marked.size()) {
            before = marked.size();
            for (int m : new ArrayList<>(marked)) {
                marked.addAll(nodes.get(m).parts.values());
                for (int n : nodes.keySet()) {
                    if (same(leaders, n, m)) {
                        marked.add(n);
                    }
                }
            }
        }
        return leaders.get(x);
    }

    int sweep() {
        TreeMap<Integer, Node> staying = new TreeMap<>();
        for (int n : marked) {
            if (leaders.get(n) == n) {
                Node copy = new Node();
                copy.kind = what(n).kind;
                copy.value = what(n).value;
                copy.saidNeeded = needed(n);
                what(n).parts.forEach((f, p) -> copy.parts.put(f, leaders.get(p)));
                staying.put(n, copy);
            }
        }
        int went = nodes.size() - staying.size();
        forget();
        nodes = staying;
        for (int n : nodes.keySet()) {
            leaders.put(n, n);
        }
        return went;
    }

    int clear() {
        int before = nodes.size();
        nodes.clear();
        forget();
        return before;
    }

    private void forget() {
        told.clear();
        leaders.clear();
        pushed.clear();
        touched.clear();
        marked.clear();
    }

    int count(int what) {
        int fields = 0;
        int variables = 0;
        for (int n : nodes.keySet()) {
            fields += nodes.get(n).parts.size();
            variables += leaders.get(n) == n && what(n).kind == 0 ? 1 : 0;
        }
        int[] answers = {nodes.size(), fields, pushed.size(), variables, touched.size(), marked.size()};
        return what < 0 || what > 5 ? -1 : answers[what];
    }
}
