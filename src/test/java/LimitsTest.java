/**
 * The limits of nodes and fields lie beyond the 512 calls for which answers are promised, but no call may throw
 * or fail to end there either.
 */
public final class LimitsTest {
    private static final int NODES = 32768;
    private static final int FIELDS = 65536;

    public static void main(String[] args) {
        manyNodes();
        manyFields();
        longChains();
        Check.finish();
    }

    private static void manyNodes() {
        TreeStore s = new TreeStore();
        for (int i = 0; i < NODES; i++) {
            Check.due("variable", s.variable(), i);
        }
        s.push(1, 0);
        Check.due("one variable more", s.variable(), TreeStore.FULL);
        Check.due("one number more", s.number(1), TreeStore.FULL);
        Check.due("one atom more", s.atom(1), TreeStore.FULL);
        Check.due("no atom", s.atom(-1), TreeStore.NONE);
        Check.due("one record more", s.record(1), TreeStore.FULL);
        Check.due("one thing more", s.thing(1), TreeStore.FULL);
        Check.due("still pushed", s.count(2), 1);
        Check.due("the highest", s.mark(NODES - 1), NODES - 1);
        Check.due("all others go", s.sweep(), NODES - 1);
        Check.due("from 0 on", s.variable(), 0);
        Check.due("clear", s.clear(), 2);
    }

    private static void manyFields() {
        TreeStore s = new TreeStore();
        s.variable();
        int left = FIELDS;
        while (left > 0) {
            int width = Math.min(255, left);
            for (int f = 1; f <= width; f++) {
                s.push(f, 0);
            }
            Check.due("a record", s.record(1) > 0, true);
            left -= width;
        }
        s.push(1, 0);
        Check.due("a field more", s.record(1), TreeStore.FULL);
        Check.due("a field more of a thing", s.thing(1), TreeStore.FULL);
        Check.due("all fields", s.count(1), FIELDS);
        Check.due("wide records are one", s.tell(1, 2), true);
        Check.due("wide records are equal", s.ask(1, 3), 1);
        Check.due("wide records are alike", s.like(4, 5), true);
        s.sweep();
        Check.due("a thing without", s.thing(1), 0);
    }

    /** Two chains of records that end in one variable each: equal only when those are. */
    private static void longChains() {
        TreeStore s = new TreeStore();
        int left = s.variable();
        int right = s.variable();
        int links = (NODES - 2) / 2;
        for (int i = 0; i < links; i++) {
            s.push(1, left);
            left = s.record(1);
            s.push(1, right);
            right = s.record(1);
        }
        Check.due("chains perhaps", s.ask(left, right), -1);
        Check.due("chains hang on the first end", s.hangs(left, right, 0), 0);
        Check.due("chains hang on the other end", s.hangs(left, right, 1), 1);
        Check.due("chains are alike", s.like(left, right), true);
        Check.due("a ring", s.tell(0, left), true);
        Check.due("a ring and a chain", s.like(left, right), false);
        Check.due("another ring", s.tell(1, right), true);
        Check.due("rings are equal", s.ask(0, 1), 1);
        Check.due("rings are one", s.tell(0, 1), true);
        Check.due("nothing is touched", s.count(4), 0);
        Check.due("marked", s.mark(right), 0);
        Check.due("all are marked", s.count(5), 2 + 2 * links);
        Check.due("many go", s.sweep(), 2 + 2 * links - s.count(0));
    }
}
