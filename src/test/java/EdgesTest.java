import java.util.ArrayList;
import java.util.List;

/**
 * Every call with all combinations of edge arguments, in several states, on a TreeStore and on the Model: answers
 * and states must agree, and a call that is refused must change nothing.
 */
public final class EdgesTest {
    private static final int LOW = Integer.MIN_VALUE;
    private static final int HIGH = Integer.MAX_VALUE;
    private static final int[] NODES = {LOW, -1, 0, 1, 2, 3, 4, 5, 6, 7, 8, 9, 15, 16, 32768, HIGH};
    private static final int[] VALUES = {LOW, LOW + 1, -8193, -8192, -2, -1, 0, 1, 8191, 8192, HIGH - 1, HIGH};
    private static final int[] FEATURES = {LOW, -8193, -8192, -2, -1, 0, 1, 2, 3, 255, 256, 9999, 10000, HIGH};
    private static final int[] PLACES = {LOW, -1, 0, 1, 2, 3, 4, 5, 6, 7, 254, 255, 256, HIGH};
    private static final long[] PATHS = {0L, 1L, 2L, 3L, 255L, 256L, 0x0101L, 0x0102L, 0x0201L, 0x010001L,
        0x0101010101010101L, 0x0202020202020202L, 0x8001010101010101L, Long.MIN_VALUE, Long.MAX_VALUE, -1L};

    public static void main(String[] args) {
        List<List<Call>> states = states();
        List<Call> asking = askingCalls();
        List<Call> changing = changingCalls();
        for (int i = 0; i < states.size(); i++) {
            Check.sentence("state " + i, "as in EdgesTest.states()");
            askAll(states.get(i), asking);
            changeEach(states.get(i), changing);
        }
        Check.finish();
    }

    private static List<List<Call>> states() {
        List<Call> empty = List.of();
        List<Call> rings = List.of(Call.of("variable"), Call.of("variable"), Call.of("push", 1, 0),
                Call.of("push", -1, 1), Call.of("record", 1), Call.of("tell", 0, 2), Call.of("variable"),
                Call.of("push", 1, 3), Call.of("push", -1, 3), Call.of("thing", 1), Call.of("push", 1, 4),
                Call.of("push", -1, 1), Call.of("record", 1), Call.of("number", -1), Call.of("atom", 0),
                Call.of("need", 3), Call.of("push", 2, 5), Call.of("mark", 4));
        List<Call> hole = List.of(Call.of("variable"), Call.of("variable"), Call.of("number", 1), Call.of("push", 1, 0),
                Call.of("push", 2, 2), Call.of("record", 1), Call.of("push", 1, 0), Call.of("push", 2, 0),
                Call.of("record", 1), Call.of("mark", 3), Call.of("mark", 4), Call.of("sweep"));
        List<Call> determined = List.of(Call.of("variable"), Call.of("variable"), Call.of("variable"),
                Call.of("push", 1, 2), Call.of("thing", 0), Call.of("push", 1, 3), Call.of("push", 2, 1),
                Call.of("record", 8191), Call.of("tell", 4, 1), Call.of("tell", 0, 3), Call.of("need", 2));
        List<Call> swept = new ArrayList<>(determined);
        swept.addAll(List.of(Call.of("mark", 4), Call.of("sweep"), Call.of("variable"), Call.of("tell", 2, 3)));
        List<Call> full = new ArrayList<>(List.of(Call.of("variable"), Call.of("number", 2)));
        for (int f = 1; f <= 255; f++) {
            full.add(Call.of("push", f, f % 2));
        }
        return List.of(empty, rings, hole, determined, swept, full);
    }

    private static List<Call> askingCalls() {
        List<Call> all = new ArrayList<>();
        for (int x : NODES) {
            for (int y : NODES) {
                all.add(Call.of("ask", x, y));
                all.add(Call.of("like", x, y));
                for (int i : new int[] {LOW, -1, 0, 1, 2, 3, 16, HIGH}) {
                    all.add(Call.of("hangs", x, y, i));
                }
            }
            for (int f : FEATURES) {
                all.add(Call.of("part", x, f));
            }
            for (int i : PLACES) {
                for (long path : PATHS) {
                    all.add(Call.along("look", x, path, i));
                    all.add(Call.along("feature", x, path, i));
                }
            }
        }
        for (int i : PLACES) {
            all.add(Call.of("touched", i));
            all.add(Call.of("count", i));
        }
        return all;
    }

    private static List<Call> changingCalls() {
        List<Call> all = new ArrayList<>(List.of(Call.of("variable"), Call.of("sweep"), Call.of("clear")));
        for (int v : VALUES) {
            all.add(Call.of("number", v));
            all.add(Call.of("atom", v));
            all.add(Call.of("record", v));
            all.add(Call.of("thing", v));
        }
        for (int x : NODES) {
            all.add(Call.of("need", x));
            all.add(Call.of("mark", x));
            for (int y : NODES) {
                all.add(Call.of("tell", x, y));
            }
            for (int f : FEATURES) {
                all.add(Call.of("push", f, x));
                all.add(Call.of("set", x, f, 0));
                all.add(Call.of("set", 0, f, x));
                all.add(Call.of("set", 4, f, x));
            }
        }
        return all;
    }

    private static void askAll(List<Call> state, List<Call> calls) {
        TreeStore store = new TreeStore();
        Model model = new Model();
        state.forEach(call -> Check.due(call.toString(), call.on(store), call.on(model)));
        String before = Make.state(store);
        for (Call call : calls) {
            Check.due(call.toString(), call.on(store), call.on(model));
        }
        Check.due("the state behind all questions", Make.state(store), before);
    }

    private static void changeEach(List<Call> state, List<Call> calls) {
        for (Call call : calls) {
            TreeStore store = new TreeStore();
            Model model = new Model();
            for (Call first : state) {
                first.on(store);
                first.on(model);
            }
            String before = Make.state(store);
            long answer = call.on(store);
            Check.due(call.toString(), answer, call.on(model));
            if (isRefused(call, answer)) {
                Check.due("the state behind " + call, Make.state(store), before);
            }
            compareStates(call, store, model);
        }
    }

    private static boolean isRefused(Call call, long answer) {
        boolean yesOrNo = call.name().equals("tell") || call.name().equals("need");
        return yesOrNo ? answer == 0L : answer < 0L;
    }

    private static void compareStates(Call behind, TreeStore store, Model model) {
        for (int i = 0; i < 6; i++) {
            same(behind, Call.of("count", i), store, model);
            same(behind, Call.of("touched", i), store, model);
        }
        for (int n = 0; n < 10; n++) {
            for (int what = 0; what < 5; what++) {
                same(behind, Call.along("look", n, 0L, what), store, model);
            }
            for (int i = 0; i < 3; i++) {
                same(behind, Call.along("feature", n, 0L, i), store, model);
                same(behind, Call.along("look", n, i + 1L, 3), store, model);
            }
        }
        same(behind, Call.of("variable"), store, model);
    }

    private static void same(Call behind, Call call, TreeStore store, Model model) {
        long got = call.on(store);
        long want = call.on(model);
        if (got != want) {
            Check.due("behind " + behind + ": " + call, got, want);
        }
    }
}
