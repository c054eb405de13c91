/**
 * The limits of nodes and fields, which lie beyond the 512 calls for which answers are promised: FULL is answered
 * there, and no call throws or fails to end.
 */
public final class LimitsTest {
    private static final int NODES = 32768;
    private static final int FIELDS = 65536;
    private static final int NONE = TreeStore.NONE;
    private static final int FULL = TreeStore.FULL;

    public static void main(String[] args) {
        manyNodesIn512Calls();
        deepTreesIn512Calls();
        fullOfNodes();
        fullLeavesAll();
        roomAgain();
        fullOfFields();
        fieldsToTheLast();
        fieldsOnceBehindSweep();
        longChains();
        Check.finish();
    }

    private static void manyNodesIn512Calls() {
        Check.sentence("What it is", "An object is used for at most 512 calls after it has been made");
        TreeStore s = new TreeStore();
        for (int i = 0; i < 256; i++) {
            Check.due("variable", s.variable(), i);
        }
        for (int i = 255; i > 0; i--) {
            Check.due("tell", s.tell(i, i - 1), true);
        }
        Check.due("call 512", s.look(255, 0L, 3), 0);
    }

    private static void deepTreesIn512Calls() {
        Check.sentence("What it is", "An object is used for at most 512 calls after it has been made");
        TreeStore s = new TreeStore();
        int left = s.variable();
        int right = s.variable();
        for (int i = 0; i < 127; i++) {
            left = Make.record(s, 1, 1, left);
            right = Make.record(s, 1, 1, right);
        }
        Check.due("call 511", s.tell(left, right), true);
        Check.due("call 512", s.look(1, 0L, 3), 0);
    }

    private static TreeStore withAllNodes() {
        TreeStore s = new TreeStore();
        for (int i = 0; i < NODES; i++) {
            Check.due("variable", s.variable(), i);
        }
        return s;
    }

    private static void fullOfNodes() {
        Check.sentence("Terms", "NODES have numbers from 0 on, at most 32,768 at a time");
        TreeStore s = withAllNodes();
        Check.due("nodes", s.count(0), NODES);
        s.push(1, NODES - 1);
        Check.sentence("Promise 2", "A new variable. FULL.");
        Check.due("one more", s.variable(), FULL);
        Check.sentence("Promise 3", "A number: its node, a new one. FULL.");
        Check.due("one more", s.number(1), FULL);
        Check.sentence("Promise 4", "NONE, refused, when k is not 0 .. 8191; FULL.");
        Check.due("one more", s.atom(1), FULL);
        Check.due("no atom", s.atom(-1), NONE);
        Check.due("no atom above", s.atom(8192), NONE);
        Check.sentence("Promise 6", "NONE, refused, when label is not 0 .. 8191 or nothing is pushed; FULL.");
        Check.due("one more", s.record(1), FULL);
        Check.due("no label", s.record(-1), NONE);
        Check.sentence("Promise 7", "NONE, refused, when code is below 0; FULL.");
        Check.due("one more", s.thing(1), FULL);
        Check.due("no code", s.thing(-1), NONE);
        Check.due("nodes", s.count(0), NODES);
    }

    private static void fullLeavesAll() {
        Check.sentence("Terms", "NODES have numbers from 0 on, at most 32,768 at a time");
        TreeStore s = withAllNodes();
        s.need(7);
        s.push(1, 0);
        s.mark(NODES - 1);
        int[] counts = {NODES, 0, 1, NODES, 1, 1};
        s.variable();
        s.number(1);
        s.atom(1);
        s.record(1);
        s.thing(1);
        for (int what = 0; what < counts.length; what++) {
            Check.due("count " + what, s.count(what), counts[what]);
        }
        Check.due("touched", s.touched(0), 7);
        s.sweep();
        Check.due("nothing pushed", s.record(1), NONE);
        Check.due("a thing without fields", s.thing(1), 0);
    }

    private static void roomAgain() {
        Check.sentence("Terms", "a new node gets the least number that no node has");
        TreeStore s = withAllNodes();
        Check.due("the highest", s.mark(NODES - 1), NODES - 1);
        Check.due("all others go", s.sweep(), NODES - 1);
        for (int i = 0; i < NODES - 1; i++) {
            Check.due("number", s.number(i), i);
        }
        Check.due("full again", s.number(1), FULL);
        Check.due("the highest is a variable", s.look(NODES - 1, 0L, 0), 0);
        Check.due("clear", s.clear(), NODES);
        Check.due("from 0 on", s.variable(), 0);
    }

    /** A variable, 0, and records with 255 fields each, until no more than "left" fields have room. */
    private static TreeStore withFields(int left) {
        TreeStore s = new TreeStore();
        s.variable();
        for (int fields = FIELDS - left; fields > 0; fields -= 255) {
            Make.pushMany(s, 1, Math.min(255, fields), 0);
            Check.due("a record", s.record(1) > 0, true);
        }
        Check.due("fields", s.count(1), FIELDS - left);
        return s;
    }

    private static void fullOfFields() {
        Check.sentence("Terms", "All records and things that are there have at most 65,536 fields together.");
        TreeStore s = withFields(0);
        Check.due("a thing without", s.thing(1) > 0, true);
        s.push(1, 0);
        s.mark(0);
        Check.due("a record", s.record(1), FULL);
        Check.due("a thing", s.thing(1), FULL);
        Check.due("no label", s.record(8192), NONE);
        Check.due("no code", s.thing(-1), NONE);
        Check.due("still pushed", s.count(2), 1);
        Check.due("still marked", s.count(5), 1);
        Check.due("fields", s.count(1), FIELDS);
        Check.due("wide records are one", s.tell(1, 2), true);
        Check.due("wide records are equal", s.ask(1, 3), 1);
        Check.due("wide records are alike", s.like(4, 5), true);
        s.sweep();
        Check.due("no fields", s.count(1), 0);
        Check.due("a thing again", s.thing(1), 0);
    }

    private static void fieldsToTheLast() {
        Check.sentence("Terms", "All records and things that are there have at most 65,536 fields together.");
        TreeStore s = withFields(3);
        Make.pushMany(s, 1, 4, 0);
        Check.due("four are too many", s.record(1), FULL);
        Check.due("four of a thing", s.thing(1), FULL);
        TreeStore exact = withFields(3);
        Make.pushMany(exact, 1, 3, 0);
        Check.due("three are not", exact.thing(1) > 0, true);
        Check.due("fields", exact.count(1), FIELDS);
    }

    private static void fieldsOnceBehindSweep() {
        Check.sentence("Promise 21", "fields (1; of a record or thing that stays for several behind sweep() once)");
        TreeStore s = withFields(0);
        s.tell(1, 2);
        s.tell(2, 3);
        s.push(1, 0);
        Check.due("full", s.record(1), FULL);
        s.mark(3);
        s.sweep();
        Check.due("of one", s.count(1), 255);
        Check.due("the nodes", s.count(0), 2);
        Check.due("its last part", s.part(1, 255), 0);
        s.push(1, 0);
        Check.due("room again", s.record(1), 2);
    }

    /** Two chains of records that end in one variable each: equal only when those are. */
    private static void longChains() {
        Check.sentence("Terms", "Two trees are EQUAL when nothing tells them apart, at any depth");
        TreeStore s = new TreeStore();
        int left = s.variable();
        int right = s.variable();
        int links = (NODES - 2) / 2;
        for (int i = 0; i < links; i++) {
            s.push(1, left);
            left = s.record(1);
            s.push(1, right);
            right = s.record(1);
        }
        Check.due("chains perhaps", s.ask(left, right), -1);
        Check.due("chains hang on the first end", s.hangs(left, right, 0), 0);
        Check.due("chains hang on the other end", s.hangs(left, right, 1), 1);
        Check.due("chains are alike", s.like(left, right), true);
        Check.due("a ring", s.tell(0, left), true);
        Check.due("a ring and a chain", s.like(left, right), false);
        Check.due("another ring", s.tell(1, right), true);
        Check.due("rings are equal", s.ask(0, 1), 1);
        Check.due("rings are one", s.tell(0, 1), true);
        Check.due("nothing is touched", s.count(4), 0);
        Check.due("marked", s.mark(right), 0);
        Check.due("all are marked", s.count(5), 2 + 2 * links);
        Check.due("half of them go", s.sweep(), 1 + links + 1);
        Check.due("half of them stay", s.count(0), links);
    }
}
