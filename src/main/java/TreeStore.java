import java.util.Arrays;

/** Variables that are bound once, and what is told of them; the promises are in ../shared/DOC.md. */
public final class TreeStore {
    public static final int NONE = -1;
    public static final int FULL = -2;

    private static final int NODE_LIMIT = 32768;
    private static final int FIELD_LIMIT = 65536;
    private static final int PUSH_LIMIT = 255;
    private static final int HIGHEST_ATOM = 8191;
    private static final int HIGHEST_NUMBER_FEATURE = 9999;
    private static final int PATH_BYTES = 8;

    /** Every pair but the first stands for a field that is never paired again, on one of two sides. */
    private static final int PAIR_LIMIT = 2 * FIELD_LIMIT + 1;

    /** Rows begin small, since most objects stay small, and are doubled when they are full. */
    private static final int FIRST_ROOM = 16;

    private static final int FREE = -1;
    private static final int VARIABLE = 0;
    private static final int NUMBER = 1;
    private static final int ATOM = 2;
    private static final int RECORD = 3;
    private static final int THING = 4;

    private final Nodes nodes;
    private final Pushed pushed;
    private final Trial trial;
    private final Likeness likeness;
    private final Leaders touchedLeaders;

    public TreeStore() {
        nodes = new Nodes();
        pushed = new Pushed();
        trial = new Trial(nodes);
        likeness = new Likeness(nodes);
        touchedLeaders = new Leaders();
    }

    public int variable() {
        return nodes.addPlain(VARIABLE, 0);
    }

    public int number(int v) {
        return nodes.addPlain(NUMBER, v);
    }

    public int atom(int k) {
        if (!isAtom(k)) {
            return NONE;
        }
        return nodes.addPlain(ATOM, k);
    }

    public int push(int f, int node) {
        if (!nodes.has(node) || !isFeature(f) || pushed.holds(f)) {
            return NONE;
        }
        if (pushed.size >= PUSH_LIMIT) {
            return FULL;
        }
        pushed.insert(f, node);
        return pushed.size;
    }

    public int record(int label) {
        if (!isAtom(label) || pushed.size == 0) {
            return NONE;
        }
        return nodes.addWithFields(RECORD, label, pushed);
    }

    public int thing(int code) {
        if (code < 0) {
            return NONE;
        }
        return nodes.addWithFields(THING, code, pushed);
    }

    public boolean tell(int x, int y) {
        if (!nodes.has(x) || !nodes.has(y) || !trial.equate(x, y)) {
            return false;
        }
        trial.keep();
        touchedLeaders.become(trial.bound);
        nodes.dropMarks();
        return true;
    }

    public int ask(int x, int y) {
        if (!nodes.has(x) || !nodes.has(y)) {
            return -2;
        }
        if (!trial.equate(x, y)) {
            return 0;
        }
        return trial.bound.size == 0 ? 1 : -1;
    }

    public int hangs(int x, int y, int i) {
        if (!nodes.has(x) || !nodes.has(y) || !trial.equate(x, y)) {
            return NONE;
        }
        return trial.bound.numbered(i);
    }

    public boolean need(int x) {
        if (!nodes.has(x) || nodes.isNeeded(x)) {
            return false;
        }
        int leader = nodes.lead[x];
        nodes.needed[leader] = 1;
        touchedLeaders.empty();
        touchedLeaders.append(leader);
        return true;
    }

    public int touched(int i) {
        return touchedLeaders.numbered(i);
    }

    public int look(int x, long path, int what) {
        int leader = follow(x, path);
        if (leader == NONE) {
            return NONE;
        }
        int body = nodes.bodies[leader];
        switch (what) {
            case 0:
                return nodes.kinds[body];
            case 1:
                return nodes.values[body];
            case 2:
                return nodes.sizes[body];
            case 3:
                return leader;
            case 4:
                return nodes.isNeeded(leader) ? 1 : 0;
            default:
                return NONE;
        }
    }

    public int feature(int x, long path, int i) {
        int leader = follow(x, path);
        if (leader == NONE) {
            return 0;
        }
        int place = nodes.placeNumbered(leader, i);
        return place == NONE ? 0 : nodes.fields.features[place];
    }

    public int part(int x, int f) {
        if (!nodes.has(x)) {
            return NONE;
        }
        int place = nodes.placeOf(x, f);
        return place == NONE ? NONE : nodes.partLeader(place);
    }

    public int set(int x, int f, int y) {
        if (!nodes.has(x) || !nodes.has(y) || nodes.kindOf(x) != THING) {
            return NONE;
        }
        int place = nodes.placeOf(x, f);
        if (place == NONE) {
            return NONE;
        }
        int before = nodes.partLeader(place);
        nodes.fields.parts[place] = y;
        nodes.dropMarks();
        return before;
    }

    public boolean like(int x, int y) {
        return nodes.has(x) && nodes.has(y) && likeness.alike(x, y);
    }

    public int mark(int x) {
        if (!nodes.has(x)) {
            return NONE;
        }
        nodes.markFrom(x);
        return nodes.lead[x];
    }

    public int sweep() {
        int before = nodes.alive;
        nodes.keepMarkedLeaders();
        forgetPushedAndTouched();
        return before - nodes.alive;
    }

    public int clear() {
        int before = nodes.alive;
        nodes.dropMarks();
        nodes.keepMarkedLeaders();
        forgetPushedAndTouched();
        return before;
    }

    public int count(int what) {
        switch (what) {
            case 0:
                return nodes.alive;
            case 1:
                return nodes.fields.used;
            case 2:
                return pushed.size;
            case 3:
                return nodes.variableLeaders();
            case 4:
                return touchedLeaders.size;
            case 5:
                return nodes.marks;
            default:
                return NONE;
        }
    }

    /** The leader of the node to which a path leads, NONE when it leads nowhere. */
    private int follow(int x, long path) {
        if (!nodes.has(x)) {
            return NONE;
        }
        int leader = nodes.lead[x];
        for (int step = 0; step < PATH_BYTES; step++) {
            int which = (int) ((path >>> (8 * step)) & 255L);
            if (which == 0) {
                return leader;
            }
            int place = nodes.placeNumbered(leader, which - 1);
            if (place == NONE) {
                return NONE;
            }
            leader = nodes.partLeader(place);
        }
        return leader;
    }

    private void forgetPushedAndTouched() {
        pushed.size = 0;
        touchedLeaders.empty();
    }

    private static boolean isAtom(int k) {
        return k >= 0 && k <= HIGHEST_ATOM;
    }

    private static boolean isFeature(int f) {
        return f > 0 ? f <= HIGHEST_NUMBER_FEATURE : f < 0 && f >= -1 - HIGHEST_ATOM;
    }

    /** Puts features in their order as ints: numbers first, then atoms, whose features fall as they rise. */
    private static int rank(int f) {
        return f > 0 ? f : HIGHEST_NUMBER_FEATURE - f;
    }

    private static int[] withRoom(int[] row, int length) {
        if (length <= row.length) {
            return row;
        }
        return Arrays.copyOf(row, Math.max(length, 2 * row.length));
    }

    private static void wipe(int[] row, int length) {
        for (int i = 0; i < length && i < row.length; i++) {
            row[i] = 0;
        }
    }

    /** The root of n in a forest in which no entry points to a greater one, so that n steps are enough. */
    private static int rootOf(int[] up, int n) {
        int at = n;
        for (int step = 0; step < n && up[at] != at; step++) {
            up[at] = up[up[at]];
            at = up[at];
        }
        return at;
    }

    /** Leaders in the order in which they were appended. */
    private static final class Leaders {
        private int[] row;
        private int size;

        Leaders() {
            row = new int[FIRST_ROOM];
            size = 0;
        }

        void empty() {
            size = 0;
        }

        void append(int leader) {
            row = withRoom(row, size + 1);
            row[size] = leader;
            size++;
        }

        int numbered(int i) {
            return i >= 0 && i < size ? row[i] : NONE;
        }

        void become(Leaders other) {
            row = withRoom(row, other.size);
            System.arraycopy(other.row, 0, row, 0, other.size);
            size = other.size;
        }
    }

    /** Pairs that are still to be compared, or were: they are never taken out, so a counter can follow them. */
    private static final class Pairs {
        private int[] lefts;
        private int[] rights;
        private int size;

        Pairs() {
            lefts = new int[FIRST_ROOM];
            rights = new int[FIRST_ROOM];
            size = 0;
        }

        void startWith(int left, int right) {
            size = 0;
            append(left, right);
        }

        void append(int left, int right) {
            lefts = withRoom(lefts, size + 1);
            rights = withRoom(rights, size + 1);
            lefts[size] = left;
            rights[size] = right;
            size++;
        }
    }

    /** The fields for the next record or thing, always in the order of their features. */
    private static final class Pushed {
        private int[] features;
        private int[] parts;
        private int size;

        Pushed() {
            features = new int[FIRST_ROOM];
            parts = new int[FIRST_ROOM];
            size = 0;
        }

        boolean holds(int f) {
            for (int i = 0; i < size; i++) {
                if (features[i] == f) {
                    return true;
                }
            }
            return false;
        }

        void insert(int f, int node) {
            features = withRoom(features, size + 1);
            parts = withRoom(parts, size + 1);
            int i = size;
            for (; i > 0 && rank(features[i - 1]) > rank(f); i--) {
                features[i] = features[i - 1];
                parts[i] = parts[i - 1];
            }
            features[i] = f;
            parts[i] = node;
            size++;
        }
    }

    /** The fields of all records and things: those of one node stand together. */
    private static final class Fields {
        private int[] features;
        private int[] parts;
        private int used;
        /** A second set of rows to move into, so that a sweep makes no rows of its own. */
        private int[] nextFeatures;
        private int[] nextParts;
        private int nextUsed;

        Fields() {
            features = new int[FIRST_ROOM];
            parts = new int[FIRST_ROOM];
            used = 0;
            nextFeatures = new int[FIRST_ROOM];
            nextParts = new int[FIRST_ROOM];
            nextUsed = 0;
        }

        int takeIn(Pushed pushed) {
            int start = used;
            features = withRoom(features, used + pushed.size);
            parts = withRoom(parts, used + pushed.size);
            System.arraycopy(pushed.features, 0, features, start, pushed.size);
            System.arraycopy(pushed.parts, 0, parts, start, pushed.size);
            used += pushed.size;
            return start;
        }

        void beginMove() {
            nextFeatures = withRoom(nextFeatures, used);
            nextParts = withRoom(nextParts, used);
            nextUsed = 0;
        }

        int moveOver(int start, int size, int[] lead) {
            int place = nextUsed;
            for (int i = 0; i < size; i++) {
                nextFeatures[place + i] = features[start + i];
                nextParts[place + i] = lead[parts[start + i]];
            }
            nextUsed += size;
            return place;
        }

        void endMove() {
            int[] oldFeatures = features;
            int[] oldParts = parts;
            features = nextFeatures;
            parts = nextParts;
            used = nextUsed;
            nextFeatures = oldFeatures;
            nextParts = oldParts;
        }
    }

    /** The nodes by their numbers. What all that are the same have in common is kept with their leader. */
    private static final class Nodes {
        private int[] kinds;
        private int[] values;
        private int[] starts;
        private int[] sizes;
        private int[] lead;
        /** With a leader: one of the same that is no variable, if there is one, otherwise the leader. */
        private int[] bodies;
        private int[] needed;
        /** With a leader: 1 when all that are the same are marked. */
        private int[] marked;
        /** One above the highest number that a node has. */
        private int top;
        /** All numbers below are taken. */
        private int lowest;
        private int alive;
        private int marks;
        private final Fields fields;
        private final Leaders reached;

        Nodes() {
            kinds = new int[FIRST_ROOM];
            values = new int[FIRST_ROOM];
            starts = new int[FIRST_ROOM];
            sizes = new int[FIRST_ROOM];
            lead = new int[FIRST_ROOM];
            bodies = new int[FIRST_ROOM];
            needed = new int[FIRST_ROOM];
            marked = new int[FIRST_ROOM];
            top = 0;
            lowest = 0;
            alive = 0;
            marks = 0;
            fields = new Fields();
            reached = new Leaders();
        }

        boolean has(int n) {
            return n >= 0 && n < top && kinds[n] != FREE;
        }

        int kindOf(int n) {
            return kinds[bodies[lead[n]]];
        }

        boolean isNeeded(int n) {
            return kindOf(n) != VARIABLE || needed[lead[n]] == 1;
        }

        int addPlain(int kind, int value) {
            if (alive >= NODE_LIMIT) {
                return FULL;
            }
            return settleAt(lowestFree(), kind, value);
        }

        int addWithFields(int kind, int value, Pushed pushed) {
            if (alive >= NODE_LIMIT || fields.used + pushed.size > FIELD_LIMIT) {
                return FULL;
            }
            int n = settleAt(lowestFree(), kind, value);
            sizes[n] = pushed.size;
            starts[n] = fields.takeIn(pushed);
            pushed.size = 0;
            return n;
        }

        private int lowestFree() {
            int n = lowest;
            while (n < top && kinds[n] != FREE) {
                n++;
            }
            return n;
        }

        private int settleAt(int n, int kind, int value) {
            makeRoom(n + 1);
            dropMarks();
            vacate(n);
            kinds[n] = kind;
            values[n] = value;
            top = Math.max(top, n + 1);
            lowest = n + 1;
            alive++;
            return n;
        }

        private void makeRoom(int length) {
            kinds = withRoom(kinds, length);
            values = withRoom(values, length);
            starts = withRoom(starts, length);
            sizes = withRoom(sizes, length);
            lead = withRoom(lead, length);
            bodies = withRoom(bodies, length);
            needed = withRoom(needed, length);
            marked = withRoom(marked, length);
        }

        private void vacate(int n) {
            kinds[n] = FREE;
            values[n] = 0;
            starts[n] = 0;
            sizes[n] = 0;
            lead[n] = n;
            bodies[n] = n;
            needed[n] = 0;
            marked[n] = 0;
        }

        /** Where the field number i, from 0, of a node stands among the fields, or NONE. */
        int placeNumbered(int n, int i) {
            int body = bodies[lead[n]];
            return i >= 0 && i < sizes[body] ? starts[body] + i : NONE;
        }

        /** Where the field by a feature of a node stands among the fields, or NONE. */
        int placeOf(int n, int f) {
            int body = bodies[lead[n]];
            int end = starts[body] + sizes[body];
            for (int place = starts[body]; place < end; place++) {
                if (fields.features[place] == f) {
                    return place;
                }
            }
            return NONE;
        }

        int partLeader(int place) {
            return lead[fields.parts[place]];
        }

        /** Whether two bodies differ in nothing but their parts. */
        boolean sameShape(int a, int b) {
            if (kinds[a] != kinds[b] || values[a] != values[b] || sizes[a] != sizes[b]) {
                return false;
            }
            for (int i = 0; i < sizes[a]; i++) {
                if (fields.features[starts[a] + i] != fields.features[starts[b] + i]) {
                    return false;
                }
            }
            return true;
        }

        int variableLeaders() {
            int found = 0;
            for (int n = 0; n < top; n++) {
                if (has(n) && lead[n] == n && kindOf(n) == VARIABLE) {
                    found++;
                }
            }
            return found;
        }

        void dropMarks() {
            if (marks > 0) {
                wipe(marked, top);
                marks = 0;
            }
        }

        void markFrom(int x) {
            reached.empty();
            markLeader(lead[x]);
            for (int at = 0; at < NODE_LIMIT && at < reached.size; at++) {
                int body = bodies[reached.row[at]];
                for (int i = 0; i < sizes[body]; i++) {
                    markLeader(partLeader(starts[body] + i));
                }
            }
            marks = allMarked();
        }

        private void markLeader(int leader) {
            if (marked[leader] == 0) {
                marked[leader] = 1;
                reached.append(leader);
            }
        }

        private int allMarked() {
            int found = 0;
            for (int n = 0; n < top; n++) {
                if (has(n) && marked[lead[n]] == 1) {
                    found++;
                }
            }
            return found;
        }

        void keepMarkedLeaders() {
            // Parts are renamed by the rows of leaders, so no node may go before all fields are moved.
            fields.beginMove();
            for (int n = 0; n < top; n++) {
                if (staysBehind(n)) {
                    takeOnBody(n);
                }
            }
            fields.endMove();
            vacateAllOthers();
        }

        private boolean staysBehind(int n) {
            return marked[n] == 1;
        }

        private void takeOnBody(int leader) {
            int body = bodies[leader];
            kinds[leader] = kinds[body];
            values[leader] = values[body];
            starts[leader] = fields.moveOver(starts[body], sizes[body], lead);
            sizes[leader] = sizes[body];
            bodies[leader] = leader;
        }

        private void vacateAllOthers() {
            int newTop = 0;
            alive = 0;
            for (int n = 0; n < top; n++) {
                if (staysBehind(n)) {
                    marked[n] = 0;
                    newTop = n + 1;
                    alive++;
                } else {
                    vacate(n);
                }
            }
            top = newTop;
            lowest = 0;
            marks = 0;
        }
    }

    /** Equates two nodes on a copy of what is the same, so that a refusal or a question changes nothing. */
    private static final class Trial {
        private final Nodes nodes;
        private final Pairs pairs;
        /** The leaders of variables that became determined or the same as another one, from below. */
        private final Leaders bound;
        private int[] up;
        private int[] bodies;
        private int[] hit;

        Trial(Nodes theNodes) {
            nodes = theNodes;
            pairs = new Pairs();
            bound = new Leaders();
            up = new int[FIRST_ROOM];
            bodies = new int[FIRST_ROOM];
            hit = new int[FIRST_ROOM];
        }

        boolean equate(int x, int y) {
            copyFromNodes();
            pairs.startWith(x, y);
            for (int at = 0; at < PAIR_LIMIT && at < pairs.size; at++) {
                if (!join(rootOf(up, pairs.lefts[at]), rootOf(up, pairs.rights[at]))) {
                    return false;
                }
            }
            collectBound();
            return true;
        }

        private void copyFromNodes() {
            up = withRoom(up, nodes.top);
            bodies = withRoom(bodies, nodes.top);
            hit = withRoom(hit, nodes.top);
            System.arraycopy(nodes.lead, 0, up, 0, nodes.top);
            System.arraycopy(nodes.bodies, 0, bodies, 0, nodes.top);
            wipe(hit, nodes.top);
            bound.empty();
        }

        private boolean join(int a, int b) {
            if (a == b) {
                return true;
            }
            int bodyOfA = bodies[a];
            int bodyOfB = bodies[b];
            boolean openA = nodes.kinds[bodyOfA] == VARIABLE;
            boolean openB = nodes.kinds[bodyOfB] == VARIABLE;
            if (!openA && !openB && !pairParts(bodyOfA, bodyOfB)) {
                return false;
            }
            // A variable's leader is a root until it is joined for the first time, so none is missed.
            hit[a] |= openA ? 1 : 0;
            hit[b] |= openB ? 1 : 0;
            up[Math.max(a, b)] = Math.min(a, b);
            bodies[Math.min(a, b)] = openA ? bodyOfB : bodyOfA;
            return true;
        }

        private boolean pairParts(int a, int b) {
            // Two bodies that are not the same are two things, and a thing is equal to itself alone.
            if (nodes.kinds[a] == THING || !nodes.sameShape(a, b)) {
                return false;
            }
            for (int i = 0; i < nodes.sizes[a]; i++) {
                pairs.append(nodes.fields.parts[nodes.starts[a] + i], nodes.fields.parts[nodes.starts[b] + i]);
            }
            return true;
        }

        private void collectBound() {
            for (int n = 0; n < nodes.top; n++) {
                if (hit[n] == 1) {
                    bound.append(n);
                }
            }
        }

        void keep() {
            for (int n = 0; n < nodes.top; n++) {
                int root = rootOf(up, n);
                nodes.lead[n] = root;
                nodes.bodies[n] = bodies[n];
                if (nodes.needed[n] == 1) {
                    nodes.needed[root] = 1;
                }
            }
        }
    }

    /**
     * Whether two nodes are alike. Each leader stands twice, as 2 n for what the first node leads to and as
     * 2 n + 1 for what the second one leads to; what must become equal is joined.
     */
    private static final class Likeness {
        private final Nodes nodes;
        private final Pairs pairs;
        private int[] up;
        /** 1 for a variable or thing that has been given to one, or to which one has been given. */
        private int[] given;

        Likeness(Nodes theNodes) {
            nodes = theNodes;
            pairs = new Pairs();
            up = new int[FIRST_ROOM];
            given = new int[FIRST_ROOM];
        }

        boolean alike(int x, int y) {
            standApart();
            pairs.startWith(2 * nodes.lead[x], 2 * nodes.lead[y] + 1);
            for (int at = 0; at < PAIR_LIMIT && at < pairs.size; at++) {
                if (!join(rootOf(up, pairs.lefts[at]), rootOf(up, pairs.rights[at]))) {
                    return false;
                }
            }
            return true;
        }

        private void standApart() {
            int length = 2 * nodes.top;
            up = withRoom(up, length);
            given = withRoom(given, length);
            for (int i = 0; i < length; i++) {
                up[i] = i;
                given[i] = 0;
            }
        }

        private boolean join(int a, int b) {
            if (a == b) {
                return true;
            }
            int bodyOfA = nodes.bodies[a >> 1];
            int bodyOfB = nodes.bodies[b >> 1];
            if (!nodes.sameShape(bodyOfA, bodyOfB)) {
                return false;
            }
            int kind = nodes.kinds[bodyOfA];
            if ((kind == VARIABLE || kind == THING) && !give(a, b)) {
                return false;
            }
            up[Math.max(a, b)] = Math.min(a, b);
            for (int i = 0; i < nodes.sizes[bodyOfA]; i++) {
                int partOfA = nodes.partLeader(nodes.starts[bodyOfA] + i);
                int partOfB = nodes.partLeader(nodes.starts[bodyOfB] + i);
                pairs.append(2 * partOfA + (a & 1), 2 * partOfB + (b & 1));
            }
            return true;
        }

        private boolean give(int a, int b) {
            boolean ofOneSide = (a & 1) == (b & 1);
            if (ofOneSide || given[a] == 1 || given[b] == 1 || nodes.isNeeded(a >> 1) != nodes.isNeeded(b >> 1)) {
                return false;
            }
            given[a] = 1;
            given[b] = 1;
            return true;
        }
    }
}
