import java.util.Random;

/** Random runs of calls, always the same ones, on a TreeStore and on the Model: every answer must agree. */
public final class ModelTest {
    private static final int[] ODD = {-1, -2, Integer.MIN_VALUE, Integer.MAX_VALUE, 32767, 32768, 8192, 10000, 0};

    private final Random random;
    private final TreeStore store = new TreeStore();
    private final Model model = new Model();
    private final int seed;
    /** How many different labels, numbers and features come: with few of them, much is equal. */
    private final int variety;

    private ModelTest(int theSeed) {
        seed = theSeed;
        random = new Random(theSeed);
        variety = 1 + random.nextInt(3);
    }

    public static void main(String[] args) {
        for (int seed = 0; seed < 1500 && !Check.anyWrong(); seed++) {
            new ModelTest(seed).run(seed % 50 == 0 ? 512 : 40 + seed % 120);
        }
        for (int seed = 0; seed < 1500 && !Check.anyWrong(); seed++) {
            new ModelTest(seed).runOnGraph();
        }
        Check.finish();
    }

    private void run(int calls) {
        for (int call = 0; call < calls && !Check.anyWrong(); call++) {
            oneCall(call);
        }
    }

    /** Variables that are told to be records of variables, so that there are many rings: all pairs are compared. */
    private void runOnGraph() {
        int inner = 1 + random.nextInt(6);
        int leaves = random.nextInt(3);
        int all = inner + leaves;
        for (int i = 0; i < all; i++) {
            due("variable", store.variable(), model.variable());
        }
        int[] order = random.ints(0, all).distinct().limit(all).toArray();
        for (int i = 0; i < inner; i++) {
            tellOneRecord(order[i], all);
        }
        for (int i = inner; i < all && random.nextBoolean(); i++) {
            int leaf = random.nextInt(3) == 0 ? store.number(1) : store.thing(1);
            due("leaf", leaf, store.look(leaf, 0L, 0) == 1 ? model.number(1) : model.thing(1));
            due("tell a leaf", store.tell(order[i], leaf), model.tell(order[i], leaf));
        }
        comparePairs(all);
        int x = random.nextInt(all);
        int y = random.nextInt(all);
        due("tell two", store.tell(x, y), model.tell(x, y));
        comparePairs(all);
        markSome();
        due("sweep", store.sweep(), model.sweep());
        lookAtAll("sweep ");
        comparePairs(all);
    }

    private void tellOneRecord(int variable, int all) {
        boolean thing = random.nextInt(5) == 0;
        for (int f = 1; f <= variety; f++) {
            int part = random.nextInt(all);
            due("push", store.push(f, part), model.push(f, part));
        }
        int made = thing ? store.thing(1) : store.record(1);
        due("made", made, thing ? model.thing(1) : model.record(1));
        due("tell a record", store.tell(variable, made), model.tell(variable, made));
    }

    private void comparePairs(int all) {
        for (int x = 0; x < all; x++) {
            for (int y = 0; y < all; y++) {
                String pair = "(" + x + ", " + y + ")";
                due("like" + pair, store.like(x, y), model.like(x, y));
                due("ask" + pair, store.ask(x, y), model.ask(x, y));
                due("hangs" + pair, store.hangs(x, y, 0), model.hangs(x, y, 0));
            }
        }
    }

    private void due(String call, long got, long want) {
        Check.due("seed " + seed + ": " + call, got, want);
    }

    private void due(String call, boolean got, boolean want) {
        Check.due("seed " + seed + ": " + call, got, want);
    }

    private int odd() {
        return ODD[random.nextInt(ODD.length)];
    }

    private int node() {
        int nodes = model.count(0);
        return random.nextInt(60) == 0 ? odd() : random.nextInt(nodes + 1 + nodes / 20);
    }

    private int feature() {
        if (random.nextInt(80) == 0) {
            return odd();
        }
        int f = 1 + random.nextInt(variety);
        return random.nextInt(4) == 0 ? -f : f;
    }

    private int small() {
        return random.nextInt(60) == 0 ? odd() : random.nextInt(variety);
    }

    private int index() {
        return random.nextInt(30) == 0 ? odd() : random.nextInt(4);
    }

    private long path() {
        long path = 0;
        int length = random.nextInt(9);
        for (int i = 0; i < length; i++) {
            path = path << 8 | (random.nextInt(40) == 0 ? random.nextInt(256) : 1 + random.nextInt(variety));
        }
        return path;
    }

    private void oneCall(int number) {
        int way = random.nextInt(100);
        if (way < 34) {
            makingCall(number, way);
        } else if (way < 68) {
            equalityCall(number, way);
        } else {
            otherCall(number, way);
        }
    }

    private void makingCall(int number, int way) {
        String call = "call " + number + " ";
        if (way < 8) {
            due(call + "variable", store.variable(), model.variable());
        } else if (way < 10) {
            int v = small();
            due(call + "number", store.number(v), model.number(v));
        } else if (way < 12) {
            int k = small();
            due(call + "atom", store.atom(k), model.atom(k));
        } else if (way < 23) {
            int f = feature();
            int n = node();
            due(call + "push", store.push(f, n), model.push(f, n));
        } else if (way < 31) {
            int label = small();
            due(call + "record", store.record(label), model.record(label));
        } else {
            int code = small();
            due(call + "thing", store.thing(code), model.thing(code));
        }
    }

    private void equalityCall(int number, int way) {
        String call = "call " + number + " ";
        int x = node();
        int y = node();
        int i = index();
        if (way < 43) {
            due(call + "tell", store.tell(x, y), model.tell(x, y));
        } else if (way < 49) {
            due(call + "ask", store.ask(x, y), model.ask(x, y));
        } else if (way < 55) {
            due(call + "hangs", store.hangs(x, y, i), model.hangs(x, y, i));
        } else if (way < 59) {
            due(call + "need", store.need(x), model.need(x));
        } else if (way < 62) {
            due(call + "touched", store.touched(i), model.touched(i));
        } else {
            due(call + "like", store.like(x, y), model.like(x, y));
        }
    }

    private void otherCall(int number, int way) {
        String call = "call " + number + " ";
        int x = node();
        int y = node();
        long path = path();
        int f = feature();
        int what = random.nextInt(7) - (random.nextInt(20) == 0 ? 1 : 0);
        if (way < 76) {
            due(call + "look", store.look(x, path, what), model.look(x, path, what));
        } else if (way < 80) {
            due(call + "feature", store.feature(x, path, what), model.feature(x, path, what));
        } else if (way < 84) {
            due(call + "part", store.part(x, f), model.part(x, f));
        } else if (way < 88) {
            due(call + "set", store.set(x, f, y), model.set(x, f, y));
        } else if (way < 92) {
            due(call + "mark", store.mark(x), model.mark(x));
        } else if (way < 98) {
            due(call + "count", store.count(what), model.count(what));
        } else if (random.nextInt(4) != 0) {
            markSome();
            due(call + "sweep", store.sweep(), model.sweep());
            lookAtAll(call);
        } else if (random.nextInt(4) == 0) {
            due(call + "clear", store.clear(), model.clear());
        }
    }

    private void markSome() {
        int most = random.nextInt(12);
        for (int i = 0; i < most; i++) {
            int x = node();
            due("mark", store.mark(x), model.mark(x));
        }
    }

    private void lookAtAll(String call) {
        for (int what = 0; what < 6; what++) {
            due(call + "then count", store.count(what), model.count(what));
        }
        int nodes = model.count(0);
        for (int x = 0; x < nodes + 3; x++) {
            for (int what = 0; what < 5; what++) {
                due(call + "then look", store.look(x, 0L, what), model.look(x, 0L, what));
                due(call + "then feature", store.feature(x, 0L, what), model.feature(x, 0L, what));
                due(call + "then part", store.look(x, 1L + what, 3), model.look(x, 1L + what, 3));
            }
        }
    }
}
