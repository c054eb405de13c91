/**
 * Each sentence of the promises that names a boundary or a refused call, with a method of its own. FULL for want of
 * nodes or fields is in LimitsTest, what the document's terms say in TermsTest.
 */
public final class BoundariesTest {
    private static final int NONE = -1;
    private static final int FULL = -2;
    private static final int LOW = Integer.MIN_VALUE;
    private static final int HIGH = Integer.MAX_VALUE;
    private static final int[] FAR = {LOW, LOW + 1, -65536, -32768, -257, -256, -255, 255, 256, 257, 32768, 65535,
        65536, 1 << 30, HIGH - 1, HIGH};

    public static void main(String[] args) {
        makingNodes();
        pushing();
        telling();
        asking();
        needing();
        looking();
        setting();
        likeness();
        marking();
        sweeping();
        clearing();
        counting();
        Check.finish();
    }

    private static void makingNodes() {
        noNodes();
        newVariable();
        newNumber();
        newAtom();
        atomRefused();
        recordEmptiesPushed();
        recordLabelRefused();
        recordOfNothingRefused();
        thingWithoutFields();
        thingEmptiesPushed();
        thingRefused();
    }

    private static void noNodes() {
        Check.sentence("Promise 1", "No nodes.");
        for (int n : new int[] {0, 1, 15, 16, 32767, -1, LOW, HIGH}) {
            TreeStore s = new TreeStore();
            String state = Make.state(s);
            Check.due("look", s.look(n, 0L, 0), NONE);
            Check.due("push", s.push(1, n), NONE);
            Check.due("tell", s.tell(n, n), false);
            Check.due("ask", s.ask(n, n), -2);
            Check.due("hangs", s.hangs(n, n, 0), NONE);
            Check.due("need", s.need(n), false);
            Check.due("feature", s.feature(n, 0L, 0), 0);
            Check.due("part", s.part(n, 1), NONE);
            Check.due("set", s.set(n, 1, n), NONE);
            Check.due("like", s.like(n, n), false);
            Check.due("mark", s.mark(n), NONE);
            Check.due("touched", s.touched(n), NONE);
            Check.due("all", Make.state(s), state);
        }
        TreeStore s = new TreeStore();
        for (int what = 0; what < 6; what++) {
            Check.due("count " + what, s.count(what), 0);
        }
        Check.due("sweep", s.sweep(), 0);
        Check.due("clear", s.clear(), 0);
        Check.due("the first node", s.variable(), 0);
    }

    private static void newVariable() {
        Check.sentence("Promise 2", "A new variable.");
        TreeStore s = new TreeStore();
        s.variable();
        s.need(0);
        Check.due("variable", s.variable(), 1);
        Check.due("its kind", s.look(1, 0L, 0), 0);
        Check.due("its value", s.look(1, 0L, 1), 0);
        Check.due("its fields", s.look(1, 0L, 2), 0);
        Check.due("its leader", s.look(1, 0L, 3), 1);
        Check.due("needed", s.look(1, 0L, 4), 0);
        s.tell(1, s.number(9));
        s.clear();
        s.variable();
        Check.due("where one was determined", s.variable(), 1);
        Check.due("its new kind", s.look(1, 0L, 0), 0);
        Check.due("needed behind clear", s.look(0, 0L, 4), 0);
    }

    private static void newNumber() {
        Check.sentence("Promise 3", "A number: its node, a new one.");
        TreeStore s = new TreeStore();
        Check.due("number", s.number(5), 0);
        Check.due("the number again", s.number(5), 1);
        Check.due("its leader", s.look(1, 0L, 3), 1);
        Check.due("the least int", s.number(LOW), 2);
        Check.due("what it is", s.look(2, 0L, 1), LOW);
        Check.due("the greatest int", s.number(HIGH), 3);
        Check.due("what that is", s.look(3, 0L, 1), HIGH);
    }

    private static void newAtom() {
        Check.sentence("Promise 4", "An atom: its node, a new one.");
        TreeStore s = new TreeStore();
        Check.due("atom", s.atom(0), 0);
        Check.due("the atom again", s.atom(0), 1);
        Check.due("its leader", s.look(1, 0L, 3), 1);
        Check.due("the highest", s.atom(8191), 2);
        Check.due("its kind", s.look(2, 0L, 0), 2);
        Check.due("what it is", s.look(2, 0L, 1), 8191);
    }

    private static void atomRefused() {
        Check.sentence("Promise 4", "NONE, refused, when k is not 0 .. 8191");
        TreeStore s = Make.withHole();
        s.need(2);
        s.mark(2);
        String state = Make.state(s);
        for (int k : new int[] {-1, -2, -8192, LOW, 8192, 8193, 16384, 65536, HIGH}) {
            Check.due("atom " + k, s.atom(k), NONE);
        }
        Check.due("all", Make.state(s), state);
    }

    private static void recordEmptiesPushed() {
        Check.sentence("Promise 6", "A record with the fields that are pushed: its node; none are pushed then.");
        TreeStore s = new TreeStore();
        s.variable();
        s.number(3);
        s.push(2, 1);
        s.push(1, 0);
        Check.due("record", s.record(1), 2);
        Check.due("pushed", s.count(2), 0);
        Check.due("fields", s.look(2, 0L, 2), 2);
        Check.due("part 1", s.look(2, 1L, 3), 0);
        Check.due("part 2", s.look(2, 2L, 3), 1);
        s.push(2, 0);
        Check.due("the next", s.record(1), 3);
        Check.due("has its own alone", s.look(3, 0L, 2), 1);
        Check.due("the first keeps its own", s.part(2, 2), 1);
    }

    private static void recordLabelRefused() {
        Check.sentence("Promise 6", "NONE, refused, when label is not 0 .. 8191");
        TreeStore s = Make.withHole();
        s.push(3, 2);
        s.mark(2);
        String state = Make.state(s);
        for (int label : new int[] {-1, -2, LOW, 8192, 8193, 65536, HIGH}) {
            Check.due("label " + label, s.record(label), NONE);
        }
        Check.due("all", Make.state(s), state);
        Check.due("then with a label", s.record(0), 1);
        Check.due("what was pushed", s.part(1, 3), 2);
    }

    private static void recordOfNothingRefused() {
        Check.sentence("Promise 6", "NONE, refused, when .. nothing is pushed");
        TreeStore s = Make.withHole();
        s.mark(2);
        String state = Make.state(s);
        Check.due("nothing yet", s.record(1), NONE);
        Check.due("a wrong label, too", s.record(-1), NONE);
        Check.due("all", Make.state(s), state);
        s.push(1, 0);
        s.record(1);
        Check.due("no more", s.record(1), NONE);
        s.push(1, 0);
        s.thing(1);
        Check.due("a thing took it", s.record(1), NONE);
        s.push(1, 0);
        s.mark(0);
        s.sweep();
        Check.due("behind sweep", s.record(1), NONE);
        s.push(1, 0);
        s.clear();
        Check.due("behind clear", s.record(1), NONE);
    }

    private static void thingWithoutFields() {
        Check.sentence("Promise 7", "A thing, likewise, perhaps without fields.");
        TreeStore s = new TreeStore();
        Check.due("thing", s.thing(0), 0);
        Check.due("its kind", s.look(0, 0L, 0), 4);
        Check.due("its fields", s.look(0, 0L, 2), 0);
        Check.due("fields in all", s.count(1), 0);
        Check.due("another one", s.thing(0), 1);
        Check.due("is its own leader", s.look(1, 0L, 3), 1);
    }

    private static void thingEmptiesPushed() {
        Check.sentence("Promise 7", "A thing, likewise");
        TreeStore s = new TreeStore();
        s.variable();
        s.push(-1, 0);
        s.push(4, 0);
        Check.due("thing", s.thing(HIGH), 1);
        Check.due("pushed", s.count(2), 0);
        Check.due("its code", s.look(1, 0L, 1), HIGH);
        Check.due("its fields", s.look(1, 0L, 2), 2);
        Check.due("the first feature", s.feature(1, 0L, 0), 4);
        Check.due("the next", s.thing(0), 2);
        Check.due("has none", s.look(2, 0L, 2), 0);
    }

    private static void thingRefused() {
        Check.sentence("Promise 7", "NONE, refused, when code is below 0");
        TreeStore s = Make.withHole();
        s.push(3, 2);
        s.mark(2);
        String state = Make.state(s);
        for (int code : new int[] {-1, -2, -8192, LOW}) {
            Check.due("code " + code, s.thing(code), NONE);
        }
        Check.due("all", Make.state(s), state);
        Check.due("then with a code", s.thing(0), 1);
        Check.due("what was pushed", s.part(1, 3), 2);
    }

    private static void pushing() {
        pushCounts();
        pushNoNode();
        pushNoFeature();
        pushTwice();
        pushFull();
    }

    private static void pushCounts() {
        Check.sentence("Promise 5", "A field is pushed: how many are.");
        TreeStore s = new TreeStore();
        s.variable();
        for (int i = 1; i <= 255; i++) {
            Check.due("push", s.push(i % 2 == 0 ? i : -i, 0), i);
            Check.due("pushed", s.count(2), i);
        }
    }

    private static void pushNoNode() {
        Check.sentence("Promise 5", "NONE, refused, when there is no such node");
        TreeStore s = Make.withHole();
        s.push(1, 0);
        String state = Make.state(s);
        for (int n : Make.noNodesOfWithHole()) {
            Check.due("node " + n, s.push(2, n), NONE);
        }
        Check.due("all", Make.state(s), state);
        Check.due("the feature is free", s.push(2, 3), 2);
    }

    private static void pushNoFeature() {
        Check.sentence("Promise 5", "NONE, refused, when .. f is no feature");
        TreeStore s = Make.withHole();
        s.push(1, 0);
        String state = Make.state(s);
        for (int f : new int[] {0, 10000, 10001, 65537, HIGH, -8193, -8194, -10000, -65536, LOW, LOW + 1}) {
            Check.due("feature " + f, s.push(f, 0), NONE);
        }
        Check.due("all", Make.state(s), state);
    }

    private static void pushTwice() {
        Check.sentence("Promise 5", "NONE, refused, when .. f .. is pushed already");
        TreeStore s = Make.withHole();
        int[] features = {1, 9999, -1, -8192};
        for (int i = 0; i < features.length; i++) {
            Check.due("feature " + features[i], s.push(features[i], 0), i + 1);
        }
        String state = Make.state(s);
        for (int f : features) {
            Check.due("again " + f, s.push(f, 0), NONE);
            Check.due("again with another node " + f, s.push(f, 2), NONE);
        }
        Check.due("all", Make.state(s), state);
        s.record(1);
        Check.due("the first part", s.part(1, -8192), 0);
    }

    private static void pushFull() {
        Check.sentence("Promise 5", "FULL when 255 are.");
        TreeStore s = Make.withHole();
        Make.pushMany(s, 1, 254, 0);
        Check.due("number 255", s.push(255, 2), 255);
        s.mark(0);
        String state = Make.state(s);
        Check.due("one more", s.push(256, 0), FULL);
        Check.due("another", s.push(-1, 0), FULL);
        Check.due("refused, not full: no node", s.push(256, 1), NONE);
        Check.due("refused, not full: no feature", s.push(0, 0), NONE);
        Check.due("refused, not full: pushed already", s.push(255, 0), NONE);
        Check.due("all", Make.state(s), state);
        Check.due("record", s.record(1), 1);
        Check.due("its fields", s.look(1, 0L, 2), 255);
        Check.due("its last part", s.look(1, 255L, 3), 2);
        Check.due("from 1 on", s.push(256, 0), 1);
    }

    private static void telling() {
        tellHolds();
        tellOtherwise();
        tellNoNode();
    }

    private static void tellHolds() {
        Check.sentence("Promise 8", "Whether all that was told still holds when x and y are equal, too: then that is "
                + "told");
        TreeStore s = new TreeStore();
        int a = s.variable();
        int b = s.variable();
        int r = Make.record(s, 1, 1, a, 2, b);
        int q = Make.record(s, 1, 1, b, 2, s.number(1));
        Check.due("two records", s.tell(r, q), true);
        Check.due("through both fields", s.look(a, 0L, 1), 1);
        Check.due("told", s.ask(a, b), 1);
        Check.due("no longer", s.tell(b, s.number(2)), false);
        Check.due("nor for the other", s.tell(a, s.atom(1)), false);
        Check.due("what was told", s.tell(b, a), true);
        Check.due("itself", s.tell(r, r), true);
    }

    private static void tellOtherwise() {
        Check.sentence("Promise 8", "otherwise .. nothing changes");
        TreeStore s = new TreeStore();
        int[] v = {s.variable(), s.variable(), s.variable()};
        int one = s.number(1);
        int two = s.number(2);
        int x = Make.record(s, 1, 1, v[0], 2, v[1], 3, v[2], 4, one);
        int y = Make.record(s, 1, 1, v[1], 2, v[2], 3, one, 4, two);
        int z = Make.record(s, 1, 1, one, 2, v[0], 3, two, 4, v[2]);
        int apart = Make.record(s, 1, 1, v[0], 2, v[0], 3, one, 4, two);
        s.need(v[1]);
        s.push(5, v[0]);
        s.mark(x);
        String state = Make.state(s);
        Check.due("a clash in the last field", s.tell(x, y), false);
        Check.due("the other way", s.tell(y, x), false);
        Check.due("a clash by what was bound", s.tell(x, z), false);
        Check.due("a clash of two parts", s.tell(apart, z), false);
        Check.due("a number and a record", s.tell(one, x), false);
        Check.due("all", Make.state(s), state);
        Check.due("asked, still open", s.ask(v[0], v[1]), -1);
        Check.due("and free to be told", s.tell(v[0], two), true);
    }

    private static void tellNoNode() {
        Check.sentence("Promise 8", "or when there is no such node, nothing changes");
        TreeStore s = Make.withHole();
        s.need(2);
        s.mark(0);
        String state = Make.state(s);
        for (int n : Make.noNodesOfWithHole()) {
            Check.due("first " + n, s.tell(n, 0), false);
            Check.due("second " + n, s.tell(0, n), false);
            Check.due("both " + n, s.tell(n, n), false);
        }
        Check.due("all", Make.state(s), state);
    }

    private static void asking() {
        askAlways();
        askNever();
        askOtherwise();
        askNoNode();
        hangsFromBelow();
        hangsOnLeaders();
        hangsOtherwise();
        hangsNotSoMany();
    }

    private static void askAlways() {
        Check.sentence("Promise 9", "1 when x and y are equal whatever trees the variables stand for");
        TreeStore s = new TreeStore();
        int a = s.variable();
        int b = s.variable();
        Check.due("a variable and itself", s.ask(a, a), 1);
        int r = Make.record(s, 1, 1, a, 2, a);
        int q = Make.record(s, 1, 1, a, 2, b);
        Check.due("not always", s.ask(r, q), -1);
        s.tell(a, b);
        Check.due("always", s.ask(r, q), 1);
        Check.due("two that were told", s.ask(b, a), 1);
        String state = Make.state(s);
        s.ask(r, q);
        Check.due("all", Make.state(s), state);
    }

    private static void askNever() {
        Check.sentence("Promise 9", "0 when they are so for none");
        TreeStore s = new TreeStore();
        int a = s.variable();
        int one = s.number(1);
        int two = s.number(2);
        int r = Make.record(s, 1, 1, a, 2, a);
        int q = Make.record(s, 1, 1, one, 2, two);
        Check.due("one can't be two", s.ask(r, q), 0);
        Check.due("nor the other way", s.ask(q, r), 0);
        int x = s.variable();
        s.tell(x, Make.record(s, 1, 1, x, 2, one));
        int y = s.variable();
        s.tell(y, Make.record(s, 1, 1, Make.record(s, 1, 1, y, 2, two), 2, one));
        Check.due("two rings", s.ask(x, y), 0);
        String state = Make.state(s);
        s.ask(x, y);
        s.ask(r, q);
        Check.due("all", Make.state(s), state);
    }

    private static void askOtherwise() {
        Check.sentence("Promise 9", "otherwise -1");
        TreeStore s = new TreeStore();
        int a = s.variable();
        int b = s.variable();
        int r = Make.record(s, 1, 1, a);
        int q = Make.record(s, 1, 1, b);
        String state = Make.state(s);
        Check.due("two variables", s.ask(a, b), -1);
        Check.due("a variable and a record", s.ask(b, r), -1);
        Check.due("a record and its own part", s.ask(r, a), -1);
        Check.due("two records", s.ask(r, q), -1);
        Check.due("all", Make.state(s), state);
        s.need(a);
        s.need(b);
        Check.due("needed ones", s.ask(a, b), -1);
    }

    private static void askNoNode() {
        Check.sentence("Promise 9", "-2 when there is no such node.");
        TreeStore s = Make.withHole();
        String state = Make.state(s);
        for (int n : Make.noNodesOfWithHole()) {
            Check.due("first " + n, s.ask(n, 0), -2);
            Check.due("second " + n, s.ask(0, n), -2);
            Check.due("both " + n, s.ask(n, n), -2);
        }
        Check.due("all", Make.state(s), state);
    }

    private static void hangsFromBelow() {
        Check.sentence("Promise 10", "number i from below");
        TreeStore s = new TreeStore();
        int[] v = {s.variable(), s.variable(), s.variable(), s.variable(), s.variable()};
        int x = Make.record(s, 1, 1, v[4], 2, v[0], 3, v[2]);
        int y = Make.record(s, 1, 1, s.number(1), 2, s.atom(1), 3, v[3]);
        int[] want = {v[0], v[2], v[3], v[4], NONE};
        String state = Make.state(s);
        for (int i = 0; i < want.length; i++) {
            Check.due("number " + i, s.hangs(x, y, i), want[i]);
            Check.due("the other way, number " + i, s.hangs(y, x, i), want[i]);
        }
        Check.due("all", Make.state(s), state);
    }

    private static void hangsOnLeaders() {
        Check.sentence("Promise 10", "of the leaders of variables that tell(x, y) would make determined, or the same "
                + "as another one");
        TreeStore s = new TreeStore();
        int[] v = {s.variable(), s.variable(), s.variable(), s.variable()};
        int known = s.variable();
        s.tell(known, s.number(1));
        s.tell(v[3], v[1]);
        Check.due("two leaders", s.hangs(v[3], v[2], 0), v[1]);
        Check.due("and the other", s.hangs(v[3], v[2], 1), v[2]);
        Check.due("no third", s.hangs(v[3], v[2], 2), NONE);
        Check.due("one is determined", s.hangs(known, v[3], 0), v[1]);
        Check.due("what was determined is not told", s.hangs(known, v[3], 1), NONE);
        int x = Make.record(s, 1, 1, v[0], 2, v[0]);
        int y = Make.record(s, 1, 1, v[0], 2, s.number(1));
        Check.due("once", s.hangs(x, y, 0), v[0]);
        Check.due("not twice", s.hangs(x, y, 1), NONE);
    }

    private static void hangsOtherwise() {
        Check.sentence("Promise 10", "When ask(x, y) is -1 .. otherwise .. NONE");
        TreeStore s = Make.withHole();
        int one = s.number(1);
        int r = Make.record(s, 1, 1, 0, 2, one);
        int q = Make.record(s, 1, 1, 2, 2, s.number(2));
        Check.due("equal", s.hangs(r, r, 0), NONE);
        Check.due("never", s.hangs(r, one, 0), NONE);
        Check.due("never, behind a binding", s.hangs(r, q, 0), NONE);
        Check.due("perhaps", s.hangs(0, r, 0), 0);
        TreeStore holed = Make.withHole();
        for (int n : Make.noNodesOfWithHole()) {
            Check.due("two variables", holed.hangs(0, 2, 0), 0);
            Check.due("no first " + n, holed.hangs(n, 0, 0), NONE);
            Check.due("no second " + n, holed.hangs(0, n, 0), NONE);
            Check.due("neither " + n, holed.hangs(n, n, 0), NONE);
        }
    }

    private static void hangsNotSoMany() {
        Check.sentence("Promise 10", "or when there are not so many, NONE");
        TreeStore s = new TreeStore();
        int a = s.variable();
        int b = s.variable();
        Check.due("number 1", s.hangs(a, b, 1), b);
        Check.due("number 2", s.hangs(a, b, 2), NONE);
        Check.due("number 16", s.hangs(a, b, 16), NONE);
        Check.due("number -1", s.hangs(a, b, -1), NONE);
        for (int i : FAR) {
            Check.due("number " + i, s.hangs(a, b, i), NONE);
        }
    }

    private static void needing() {
        needOnce();
        needNoVariable();
        touchedFromBelow();
        touchedLeadersBefore();
        touchedByTheLastTrueOne();
        touchedNone();
    }

    private static void needOnce() {
        Check.sentence("Promise 11", "Whether x is a variable that was not needed: it is now.");
        TreeStore s = new TreeStore();
        int a = s.variable();
        int b = s.variable();
        int c = s.variable();
        s.tell(c, b);
        Check.due("a", s.need(a), true);
        Check.due("a again", s.need(a), false);
        Check.due("a is", s.look(a, 0L, 4), 1);
        Check.due("c", s.need(c), true);
        Check.due("its leader, the same", s.need(b), false);
        Check.due("b is", s.look(b, 0L, 4), 1);
        int d = s.variable();
        s.tell(d, a);
        Check.due("the same as a needed one", s.need(d), false);
        s.mark(a);
        s.sweep();
        Check.due("behind sweep", s.need(a), false);
        s.clear();
        Check.due("a new one", s.need(s.variable()), true);
    }

    private static void needNoVariable() {
        Check.sentence("Promise 11", "Whether x is a variable");
        TreeStore s = Make.withHole();
        s.need(0);
        String state = Make.state(s);
        for (int n : Make.noNodesOfWithHole()) {
            Check.due("no node " + n, s.need(n), false);
        }
        Check.due("all", Make.state(s), state);
        Check.due("number", s.need(s.number(1)), false);
        Check.due("atom", s.need(s.atom(1)), false);
        Check.due("record", s.need(Make.record(s, 1, 1, 2)), false);
        Check.due("thing", s.need(s.thing(1)), false);
        Check.due("still the first", s.touched(0), 0);
        s.tell(2, 1);
        Check.due("determined", s.need(2), false);
        Check.due("the last tell", s.touched(0), 2);
    }

    private static void touchedFromBelow() {
        Check.sentence("Promise 12", "made determined, the same as another one, or needed: number i from below");
        TreeStore s = new TreeStore();
        int[] v = {s.variable(), s.variable(), s.variable(), s.variable(), s.variable()};
        int x = Make.record(s, 1, 1, v[4], 2, v[0], 3, v[2]);
        int y = Make.record(s, 1, 1, s.number(1), 2, s.atom(1), 3, v[3]);
        s.tell(x, y);
        int[] want = {v[0], v[2], v[3], v[4], NONE};
        for (int i = 0; i < want.length; i++) {
            Check.due("number " + i, s.touched(i), want[i]);
        }
        Check.due("how many", s.count(4), 4);
        s.need(v[1]);
        Check.due("needed", s.touched(0), v[1]);
        Check.due("alone", s.count(4), 1);
    }

    private static void touchedLeadersBefore() {
        Check.sentence("Promise 12", "Of the leaders, as they were before");
        TreeStore s = new TreeStore();
        int[] v = {s.variable(), s.variable(), s.variable(), s.variable()};
        s.tell(v[3], v[2]);
        s.tell(v[3], v[0]);
        Check.due("one", s.touched(0), v[0]);
        Check.due("the leader before", s.touched(1), v[2]);
        Check.due("no third", s.touched(2), NONE);
        s.tell(v[2], s.number(1));
        Check.due("the leader of all", s.touched(0), v[0]);
        Check.due("alone", s.touched(1), NONE);
        s.tell(v[3], v[1]);
        Check.due("what was determined is not told", s.touched(0), v[1]);
        Check.due("alone again", s.touched(1), NONE);
    }

    private static void touchedByTheLastTrueOne() {
        Check.sentence("Promise 12", "the last tell() or need() that answered true");
        TreeStore s = new TreeStore();
        int a = s.variable();
        int b = s.variable();
        int c = s.variable();
        s.tell(a, b);
        Check.due("need a number", s.need(s.number(1)), false);
        Check.due("tell no node", s.tell(a, 99), false);
        Check.due("tell a clash", s.tell(3, s.number(2)), false);
        s.ask(a, c);
        s.hangs(a, c, 0);
        Check.due("the first", s.touched(0), a);
        Check.due("the second", s.touched(1), b);
        Check.due("need", s.need(c), true);
        Check.due("the needed one", s.touched(0), c);
        Check.due("no other", s.touched(1), NONE);
        Check.due("tell nothing new", s.tell(b, a), true);
        Check.due("nothing", s.touched(0), NONE);
        Check.due("none at all", s.count(4), 0);
    }

    private static void touchedNone() {
        Check.sentence("Promise 12", "number i from below; NONE.");
        TreeStore s = new TreeStore();
        Check.due("before any tell", s.touched(0), NONE);
        s.variable();
        s.variable();
        s.tell(0, 1);
        Check.due("number 1", s.touched(1), 1);
        Check.due("number 2", s.touched(2), NONE);
        Check.due("number -1", s.touched(-1), NONE);
        for (int i : FAR) {
            Check.due("number " + i, s.touched(i), NONE);
        }
    }

    private static void looking() {
        lookUpToTheFirstZero();
        lookPartsFromOneOn();
        lookVariable();
        lookNoNode();
        lookNoPart();
        lookAnotherWhat();
        featureFromZero();
        featureNone();
        partLeader();
        partNoRecord();
        partNoneSuch();
    }

    private static void lookUpToTheFirstZero() {
        Check.sentence("Promise 13", "its bytes, the lowest first, up to the first that is 0");
        TreeStore s = new TreeStore();
        int end = s.number(7);
        int at = end;
        for (int i = 0; i < 9; i++) {
            at = Make.record(s, i, 1, at, 2, end);
        }
        Check.due("no byte", s.look(at, 0L, 1), 8);
        long path = 0;
        for (int step = 1; step <= 8; step++) {
            path = path << 8 | 1L;
            Check.due("as many bytes as " + step, s.look(at, path, 1), 8 - step);
        }
        Check.due("the lowest first", s.look(at, 0x0201L, 1), 7);
        Check.due("then a part of a number", s.look(at, 0x0102L, 1), NONE);
        Check.due("a 0 in the lowest", s.look(at, 0x0101010101010100L, 1), 8);
        Check.due("a 0 in the middle", s.look(at, 0x0901010100010101L, 1), 5);
        Check.due("a 0 behind the first", s.look(at, 0xFFFFFFFFFFFF0001L, 1), 7);
        Check.due("a 0 in the highest", s.look(at, 0x0001010101010101L, 1), 1);
        Check.due("all eight", s.look(at, 0x0201010101010101L, 3), end);
    }

    private static void lookPartsFromOneOn() {
        Check.sentence("Promise 13", "are parts of records and things, from 1 on");
        TreeStore s = new TreeStore();
        int[] ends = {s.variable(), s.variable(), s.variable(), s.variable(), s.variable()};
        int[] at = {1, 127, 128, 129, 255};
        for (int f = 1; f <= 255; f++) {
            int node = ends[0];
            for (int i = 0; i < at.length; i++) {
                node = at[i] == f ? ends[i] : node;
            }
            s.push(9000 + f, node);
        }
        int wide = s.thing(1);
        for (int i = 0; i < at.length; i++) {
            Check.due("part " + at[i], s.look(wide, at[i], 3), ends[i]);
        }
        Check.due("by parts, not features", s.look(wide, 2L, 3), ends[0]);
        s.set(wide, 9000 + 255, wide);
        Check.due("eight times 255", s.look(wide, -1L, 3), wide);
        Check.due("then 128", s.look(wide, 0x80FFFFFFFFFFFFFFL, 3), ends[2]);
        Check.due("then 127", s.look(wide, 0x7FFFFFFFFFFFFFFFL, 3), ends[1]);
    }

    private static void lookVariable() {
        Check.sentence("Promise 13", "number, atom, label or code (1; of a variable 0)");
        TreeStore s = new TreeStore();
        int v = s.variable();
        Check.due("a variable", s.look(v, 0L, 1), 0);
        s.need(v);
        Check.due("a needed one", s.look(v, 0L, 1), 0);
        Check.due("the number 0", s.look(s.number(0), 0L, 1), 0);
        Check.due("the number -1", s.look(s.number(-1), 0L, 1), -1);
        Check.due("the atom", s.look(s.atom(8191), 0L, 1), 8191);
        Check.due("the label", s.look(Make.record(s, 12, 1, v), 0L, 1), 12);
        Check.due("the code", s.look(s.thing(13), 0L, 1), 13);
        Check.due("by a path", s.look(Make.record(s, 14, 1, v), 1L, 1), 0);
    }

    private static void lookNoNode() {
        Check.sentence("Promise 13", "NONE when there is no such node");
        TreeStore s = Make.withHole();
        for (int n : Make.noNodesOfWithHole()) {
            for (int what = 0; what < 5; what++) {
                Check.due("look(" + n + ", 0, " + what + ")", s.look(n, 0L, what), NONE);
                Check.due("look(" + n + ", 1, " + what + ")", s.look(n, 1L, what), NONE);
            }
        }
    }

    private static void lookNoPart() {
        Check.sentence("Promise 13", "NONE when there is no such .. part");
        TreeStore s = new TreeStore();
        int v = s.variable();
        int r = Make.record(s, 1, 1, v, 3, v);
        int[] all = {v, s.number(1), s.atom(1), s.thing(1)};
        for (int what = 0; what < 5; what++) {
            for (int n : all) {
                Check.due("of " + n, s.look(n, 1L, what), NONE);
            }
            Check.due("part 2", s.look(r, 2L, what) == NONE, false);
            Check.due("part 3", s.look(r, 3L, what), NONE);
            Check.due("part 255", s.look(r, 255L, what), NONE);
            Check.due("part of a part", s.look(r, 0x0101L, what), NONE);
            Check.due("all bytes", s.look(r, -1L, what), NONE);
            Check.due("the highest bit", s.look(r, Long.MIN_VALUE + 1L, what), s.look(v, 0L, what));
        }
    }

    private static void lookAnotherWhat() {
        Check.sentence("Promise 13", "or for another what");
        TreeStore s = new TreeStore();
        int[] all = {s.variable(), s.number(1), s.atom(1), Make.record(s, 1, 1, 0), s.thing(1)};
        for (int n : all) {
            Check.due("what 5", s.look(n, 0L, 5), NONE);
            Check.due("what -1", s.look(n, 0L, -1), NONE);
            for (int what : FAR) {
                Check.due("what " + what, s.look(n, 0L, what), NONE);
            }
        }
        Check.due("behind a path", s.look(3, 1L, 5), NONE);
    }

    private static void featureFromZero() {
        Check.sentence("Promise 14", "Feature number i, from 0");
        TreeStore s = new TreeStore();
        s.variable();
        Make.pushMany(s, 9745, 255, 0);
        int r = s.record(1);
        Check.due("number 0", s.feature(r, 0L, 0), 9745);
        Check.due("number 1", s.feature(r, 0L, 1), 9746);
        Check.due("number 254", s.feature(r, 0L, 254), 9999);
        Check.due("number 255", s.feature(r, 0L, 255), 0);
        Check.due("number -1", s.feature(r, 0L, -1), 0);
        int t = Make.thing(s, 1, -8192, r);
        Check.due("of a thing", s.feature(t, 0L, 0), -8192);
        Check.due("by a path", s.feature(t, 1L, 254), 9999);
        Check.due("by a path, one more", s.feature(t, 1L, 255), 0);
    }

    private static void featureNone() {
        Check.sentence("Promise 14", "0 when there is none.");
        TreeStore s = Make.withHole();
        for (int n : Make.noNodesOfWithHole()) {
            Check.due("no node " + n, s.feature(n, 0L, 0), 0);
        }
        int[] none = {0, s.number(1), s.atom(1), s.thing(1)};
        for (int n : none) {
            Check.due("of " + n, s.feature(n, 0L, 0), 0);
        }
        int r = Make.record(s, 1, 5, 0, 6, 2);
        for (int i : FAR) {
            Check.due("number " + i, s.feature(r, 0L, i), 0);
        }
        Check.due("number 2", s.feature(r, 0L, 2), 0);
        Check.due("of a part that has none", s.feature(r, 1L, 0), 0);
        Check.due("of no part", s.feature(r, 3L, 0), 0);
        Check.due("of the last part of all", s.feature(r, -1L, 0), 0);
    }

    private static void partLeader() {
        Check.sentence("Promise 15", "The leader of the part of x by feature f.");
        TreeStore s = new TreeStore();
        int a = s.variable();
        int b = s.variable();
        int c = s.variable();
        int r = Make.record(s, 1, 1, b, 9999, c, -1, c, -8192, b);
        Check.due("a part", s.part(r, 1), b);
        s.tell(b, a);
        Check.due("its leader", s.part(r, 1), a);
        Check.due("the highest number", s.part(r, 9999), c);
        Check.due("the first atom", s.part(r, -1), c);
        Check.due("the last atom", s.part(r, -8192), a);
    }

    private static void partNoRecord() {
        Check.sentence("Promise 15", "NONE when x is no record or thing");
        TreeStore s = Make.withHole();
        int[] none = {0, s.number(1), s.atom(1)};
        for (int n : none) {
            for (int f : new int[] {1, 0, -1, 9999, -8192}) {
                Check.due("part(" + n + ", " + f + ")", s.part(n, f), NONE);
            }
        }
        TreeStore holed = Make.withHole();
        for (int n : Make.noNodesOfWithHole()) {
            Check.due("no node " + n, holed.part(n, 1), NONE);
        }
    }

    private static void partNoneSuch() {
        Check.sentence("Promise 15", "or has none such");
        TreeStore s = new TreeStore();
        int v = s.variable();
        int r = Make.record(s, 1, 5, v, -5, v);
        int t = Make.thing(s, 1, 7, v);
        int empty = s.thing(2);
        for (int f : new int[] {0, 1, 4, 6, 7, -1, -4, -6, 10000, -8193, LOW, HIGH}) {
            Check.due("by " + f, s.part(r, f), NONE);
            Check.due("of a thing without fields by " + f, s.part(empty, f), NONE);
        }
        Check.due("of a thing", s.part(t, 7), v);
        Check.due("of a thing, another's", s.part(t, 5), NONE);
    }

    private static void setting() {
        setFromNowOn();
        setNoNode();
        setNoThing();
        setNoneSuch();
    }

    private static void setFromNowOn() {
        Check.sentence("Promise 16", "The part of the thing x by feature f is y from now on: the leader of the part "
                + "before.");
        TreeStore s = new TreeStore();
        int a = s.variable();
        int b = s.variable();
        s.tell(a, b);
        int t = Make.thing(s, 1, 3, b, -3, b);
        Check.due("the leader before", s.set(t, 3, t), a);
        Check.due("itself", s.part(t, 3), t);
        Check.due("the other part", s.part(t, -3), a);
        Check.due("itself before", s.set(t, 3, b), t);
        Check.due("again", s.part(t, 3), a);
        int v = s.variable();
        s.tell(v, t);
        Check.due("by a variable that is it", s.set(v, -3, v), a);
        Check.due("seen by the thing", s.part(t, -3), t);
        s.mark(t);
        s.sweep();
        Check.due("behind sweep", s.set(t, -3, a), t);
        Check.due("from then on", s.part(t, -3), a);
    }

    private static void setNoNode() {
        Check.sentence("Promise 16", "NONE, refused, when there is no such node");
        TreeStore s = new TreeStore();
        s.variable();
        s.variable();
        Make.thing(s, 1, 1, 0);
        s.mark(2);
        s.sweep();
        s.mark(2);
        String state = Make.state(s);
        for (int n : new int[] {1, 3, 16, 32768, -1, LOW, HIGH}) {
            Check.due("no thing " + n, s.set(n, 1, 0), NONE);
            Check.due("no part " + n, s.set(2, 1, n), NONE);
            Check.due("neither " + n, s.set(n, 1, n), NONE);
        }
        Check.due("all", Make.state(s), state);
        Check.due("what there is", s.set(2, 1, 2), 0);
    }

    private static void setNoThing() {
        Check.sentence("Promise 16", "NONE, refused, when .. x is no thing");
        TreeStore s = new TreeStore();
        int v = s.variable();
        int[] none = {v, s.number(1), s.atom(1), Make.record(s, 1, 1, v)};
        s.mark(none[3]);
        String state = Make.state(s);
        for (int n : none) {
            Check.due("node " + n, s.set(n, 1, none[1]), NONE);
        }
        Check.due("all", Make.state(s), state);
        s.tell(v, none[3]);
        Check.due("a variable that is a record", s.set(v, 1, none[1]), NONE);
    }

    private static void setNoneSuch() {
        Check.sentence("Promise 16", "NONE, refused, when .. x .. has none such");
        TreeStore s = new TreeStore();
        int v = s.variable();
        int t = Make.thing(s, 1, 5, v, -5, v);
        int empty = s.thing(1);
        s.mark(t);
        String state = Make.state(s);
        for (int f : new int[] {0, 1, 4, 6, -1, -4, -6, 9999, 10000, -8192, -8193, LOW, HIGH}) {
            Check.due("by " + f, s.set(t, f, empty), NONE);
            Check.due("without fields by " + f, s.set(empty, f, t), NONE);
        }
        Check.due("all", Make.state(s), state);
    }

    private static void likeness() {
        likeNoNode();
        likeDifferentToDifferent();
        likeNeeded();
        likeThings();
        likeEqualRest();
    }

    private static void likeNoNode() {
        Check.sentence("Promise 17", "False also when there is no such node.");
        TreeStore s = Make.withHole();
        for (int n : Make.noNodesOfWithHole()) {
            Check.due("first " + n, s.like(n, 0), false);
            Check.due("second " + n, s.like(0, n), false);
            Check.due("both " + n, s.like(n, n), false);
        }
        Check.due("what there is", s.like(0, 3), true);
    }

    private static void likeDifferentToDifferent() {
        Check.sentence("Promise 17", "different ones to different ones, all of them");
        TreeStore s = new TreeStore();
        int[] v = {s.variable(), s.variable(), s.variable()};
        int all = Make.record(s, 1, 1, v[0], 2, v[1], 3, v[2]);
        int turned = Make.record(s, 1, 1, v[1], 2, v[2], 3, v[0]);
        int two = Make.record(s, 1, 1, v[0], 2, v[1], 3, v[0]);
        int others = Make.record(s, 1, 1, v[0], 2, v[0], 3, v[1]);
        int one = Make.record(s, 1, 1, v[2], 2, v[2], 3, v[2]);
        int[] nodes = {all, turned, two, others, one};
        String before = Make.state(s);
        for (int i = 0; i < nodes.length; i++) {
            for (int k = 0; k < nodes.length; k++) {
                boolean want = i == k || i < 2 && k < 2;
                Check.due("like(" + nodes[i] + ", " + nodes[k] + ")", s.like(nodes[i], nodes[k]), want);
            }
        }
        Check.due("all", Make.state(s), before);
    }

    private static void likeNeeded() {
        Check.sentence("Promise 17", "needed variables needed ones");
        TreeStore s = new TreeStore();
        int a = s.variable();
        int b = s.variable();
        Check.due("neither", s.like(a, b), true);
        s.need(a);
        Check.due("the first alone", s.like(a, b), false);
        Check.due("the second alone", s.like(b, a), false);
        Check.due("itself", s.like(a, a), true);
        s.need(b);
        Check.due("both", s.like(a, b), true);
    }

    private static void likeThings() {
        Check.sentence("Promise 17", "things of one code with parts by the same features that are alike by it");
        TreeStore s = new TreeStore();
        int t = s.thing(0);
        Check.due("without fields", s.like(t, s.thing(0)), true);
        Check.due("another code", s.like(t, s.thing(1)), false);
        Check.due("a field more", s.like(t, Make.thing(s, 0, 1, t)), false);
        int one = s.number(1);
        int u = Make.thing(s, 5, 1, one, -1, one);
        Check.due("equal parts", s.like(u, Make.thing(s, 5, -1, s.number(1), 1, one)), true);
        Check.due("other features", s.like(u, Make.thing(s, 5, 1, one, -2, one)), false);
        Check.due("other parts", s.like(u, Make.thing(s, 5, 1, one, -1, s.number(2))), false);
        int ring = Make.thing(s, 6, 1, t);
        s.set(ring, 1, ring);
        int other = Make.thing(s, 6, 1, ring);
        Check.due("one round itself, one before it", s.like(ring, other), false);
        s.set(other, 1, other);
        Check.due("both round themselves", s.like(ring, other), true);
    }

    private static void likeEqualRest() {
        Check.sentence("Promise 17", "records, atoms, numbers equal");
        TreeStore s = new TreeStore();
        int v = s.variable();
        int[] nodes = {v, s.number(1), s.number(2), s.atom(1), s.atom(2), Make.record(s, 1, 1, v),
            Make.record(s, 2, 1, v), Make.record(s, 1, 2, v), Make.record(s, 1, 1, v, 2, v), Make.thing(s, 1, 1, v)};
        for (int i = 0; i < nodes.length; i++) {
            for (int k = 0; k < nodes.length; k++) {
                Check.due("like(" + nodes[i] + ", " + nodes[k] + ")", s.like(nodes[i], nodes[k]), i == k);
            }
        }
    }

    private static void marking() {
        markLeader();
        markNoNode();
        markAll();
        markBehindAWideRing();
    }

    private static void markLeader() {
        Check.sentence("Promise 18", "are marked: the leader of x");
        TreeStore s = new TreeStore();
        s.number(1);
        int a = s.variable();
        int b = s.variable();
        int c = s.variable();
        s.tell(c, b);
        s.tell(c, a);
        Check.due("of c", s.mark(c), a);
        Check.due("of a", s.mark(a), a);
        Check.due("all three", s.count(5), 3);
        s.tell(0, c);
        Check.due("below", s.mark(c), 0);
    }

    private static void markNoNode() {
        Check.sentence("Promise 18", "NONE when there is no such node.");
        TreeStore s = Make.withHole();
        s.mark(2);
        String state = Make.state(s);
        for (int n : Make.noNodesOfWithHole()) {
            Check.due("node " + n, s.mark(n), NONE);
        }
        Check.due("all", Make.state(s), state);
    }

    private static void markAll() {
        Check.sentence("Promise 18", "The node x, all that are the same, and all that its parts lead to are marked");
        TreeStore s = new TreeStore();
        int end = s.variable();
        int same = s.variable();
        int alone = s.variable();
        s.tell(end, same);
        int inner = Make.record(s, 1, 1, same);
        int t = Make.thing(s, 1, 1, inner);
        int outer = Make.record(s, 1, 1, t);
        int ring = s.variable();
        s.tell(ring, Make.record(s, 1, 1, ring, 2, outer));
        s.mark(same);
        Check.due("the same", s.count(5), 2);
        s.mark(inner);
        Check.due("a record", s.count(5), 3);
        s.mark(outer);
        Check.due("through a thing", s.count(5), 5);
        s.mark(outer);
        Check.due("once each", s.count(5), 5);
        s.mark(ring);
        Check.due("a ring", s.count(5), 7);
        s.mark(alone);
        Check.due("all", s.count(5), s.count(0));
    }

    private static void markBehindAWideRing() {
        Check.sentence("Promise 18", "all that its parts lead to are marked");
        TreeStore s = new TreeStore();
        int x = s.variable();
        int chain = s.variable();
        for (int i = 0; i < 6; i++) {
            chain = Make.record(s, 1, 1, chain);
        }
        Make.pushMany(s, 1, 254, x);
        s.push(255, chain);
        s.tell(x, s.record(1));
        s.mark(x);
        Check.due("all", s.count(5), 9);
        Check.due("one goes", s.sweep(), 1);
        Check.due("the end of the chain", s.look(x, 0x010101010101FFL, 3), 1);
    }

    private static void sweeping() {
        sweepNothingMarked();
        sweepAllMarked();
        sweepMarksGo();
        sweepLeadersStay();
        sweepPartsToo();
        sweepAnyNumberOfFields();
        sweepPushedAndTouchedGo();
    }

    private static void sweepNothingMarked() {
        Check.sentence("Promise 19", "all other nodes go: how many went");
        TreeStore s = new TreeStore();
        Check.due("of none", s.sweep(), 0);
        s.variable();
        Make.record(s, 1, 1, 0);
        s.thing(1);
        Check.due("nothing is marked", s.sweep(), 3);
        for (int what = 0; what < 6; what++) {
            Check.due("count " + what, s.count(what), 0);
        }
        Check.due("once more", s.sweep(), 0);
        Check.due("from 0 on", s.variable(), 0);
        Check.due("only one", s.sweep(), 1);
    }

    private static void sweepAllMarked() {
        Check.sentence("Promise 19", "of nodes that are marked the leaders stay");
        TreeStore s = new TreeStore();
        int v = s.variable();
        int r = Make.record(s, 1, 1, v, -1, s.number(5));
        s.need(v);
        s.mark(r);
        Check.due("none goes", s.sweep(), 0);
        Check.due("nodes", s.count(0), 3);
        Check.due("a variable", s.look(v, 0L, 0), 0);
        Check.due("still needed", s.look(v, 0L, 4), 1);
        Check.due("its part", s.part(r, 1), v);
        Check.due("its other part", s.look(r, 2L, 1), 5);
        Check.due("its label", s.look(r, 0L, 1), 1);
    }

    private static void sweepMarksGo() {
        Check.sentence("Promise 19", "The marks go");
        TreeStore s = new TreeStore();
        int v = s.variable();
        s.mark(v);
        s.sweep();
        Check.due("marks", s.count(5), 0);
        Check.due("it goes now", s.sweep(), 1);
        Check.due("nodes", s.count(0), 0);
    }

    private static void sweepLeadersStay() {
        Check.sentence("Promise 19", "the leaders stay, in the place of all that are the same");
        TreeStore s = new TreeStore();
        int a = s.variable();
        int b = s.variable();
        int t = Make.thing(s, 4, 1, b);
        int r = Make.record(s, 3, 1, t);
        s.tell(a, t);
        s.tell(b, r);
        s.mark(r);
        Check.due("two go", s.sweep(), 2);
        Check.due("a is the thing", s.look(a, 0L, 0), 4);
        Check.due("its code", s.look(a, 0L, 1), 4);
        Check.due("b is the record", s.look(b, 0L, 1), 3);
        Check.due("no node", s.look(t, 0L, 0), NONE);
        Check.due("nor that", s.look(r, 0L, 0), NONE);
        Check.due("fields", s.count(1), 2);
        Check.due("still a thing", s.set(a, 1, a), b);
        Check.due("and alone", s.tell(a, s.thing(4)), false);
    }

    private static void sweepPartsToo() {
        Check.sentence("Promise 19", "in the place of all that are the same (parts, too)");
        TreeStore s = new TreeStore();
        int a = s.variable();
        int b = s.variable();
        int r = Make.record(s, 1, 1, b, 2, a);
        int t = Make.thing(s, 1, 1, b, 2, r);
        s.tell(a, b);
        s.mark(t);
        Check.due("one goes", s.sweep(), 1);
        Check.due("b is a new one", s.number(6), b);
        Check.due("the record's part", s.part(r, 1), a);
        Check.due("the thing's part", s.part(t, 1), a);
        Check.due("not the new one", s.look(r, 1L, 0), 0);
        s.tell(a, b);
        Check.due("told of the leader", s.look(t, 0x0102L, 1), 6);
    }

    private static void sweepAnyNumberOfFields() {
        Check.sentence("Promise 19", "of nodes that are marked the leaders stay");
        for (int fields : new int[] {1, 2, 15, 16, 17, 31, 32, 33, 63, 64, 65, 127, 128, 129, 254, 255}) {
            TreeStore s = new TreeStore();
            int v = s.variable();
            Make.pushMany(s, 1, fields, v);
            int t = s.thing(1);
            s.mark(t);
            Check.due("none goes", s.sweep(), 0);
            Check.due("fields", s.count(1), fields);
            Check.due("the last feature", s.feature(t, 0L, fields - 1), fields);
            Check.due("the last part", s.look(t, fields, 3), v);
            Check.due("no more", s.part(t, fields + 1), NONE);
        }
    }

    private static void sweepPushedAndTouchedGo() {
        Check.sentence("Promise 19", "What is pushed goes; touched() tells nothing.");
        TreeStore s = new TreeStore();
        int v = s.variable();
        s.need(v);
        s.push(1, v);
        s.mark(v);
        Check.due("none goes", s.sweep(), 0);
        Check.due("pushed", s.count(2), 0);
        Check.due("record", s.record(1), NONE);
        Check.due("thing has no fields", s.look(s.thing(1), 0L, 2), 0);
        Check.due("touched", s.touched(0), NONE);
        Check.due("none", s.count(4), 0);
        Check.due("push again", s.push(1, v), 1);
    }

    private static void clearing() {
        clearNodes();
        clearPushedAndTouched();
    }

    private static void clearNodes() {
        Check.sentence("Promise 20", "All nodes go .. how many nodes there were.");
        TreeStore s = new TreeStore();
        Check.due("none", s.clear(), 0);
        int v = s.variable();
        int r = Make.record(s, 1, 1, v);
        s.tell(v, r);
        s.need(s.variable());
        s.mark(r);
        Check.due("all, marked or not", s.clear(), 3);
        Check.due("none again", s.clear(), 0);
        for (int what = 0; what < 6; what++) {
            Check.due("count " + what, s.count(what), 0);
        }
        Check.due("no node", s.look(v, 0L, 0), NONE);
        for (int i = 0; i < 3; i++) {
            Check.due("from 0 on", s.variable(), i);
            Check.due("its kind", s.look(i, 0L, 0), 0);
            Check.due("its fields", s.look(i, 0L, 2), 0);
            Check.due("its leader", s.look(i, 0L, 3), i);
            Check.due("needed", s.look(i, 0L, 4), 0);
        }
    }

    private static void clearPushedAndTouched() {
        Check.sentence("Promise 20", "and what is pushed; touched() tells nothing");
        TreeStore s = new TreeStore();
        s.variable();
        s.need(0);
        s.push(1, 0);
        Check.due("one node", s.clear(), 1);
        s.variable();
        Check.due("touched", s.touched(0), NONE);
        Check.due("none", s.count(4), 0);
        Check.due("pushed", s.count(2), 0);
        Check.due("record", s.record(1), NONE);
        Check.due("push again", s.push(1, 0), 1);
    }

    private static void counting() {
        countAnotherWhat();
        countFieldsOnce();
        countAll();
    }

    private static void countAnotherWhat() {
        Check.sentence("Promise 21", "NONE for another what.");
        TreeStore s = Make.withHole();
        Check.due("what 6", s.count(6), NONE);
        Check.due("what -1", s.count(-1), NONE);
        for (int what : FAR) {
            Check.due("what " + what, s.count(what), NONE);
        }
    }

    private static void countFieldsOnce() {
        Check.sentence("Promise 21", "fields (1; of a record or thing that stays for several behind sweep() once)");
        TreeStore s = new TreeStore();
        int v = s.variable();
        int r = Make.record(s, 1, 1, v, 2, v);
        int q = Make.record(s, 1, 1, v, 2, v);
        int t = Make.thing(s, 1, 1, r, 2, q, 3, v);
        int w = s.variable();
        s.tell(r, q);
        s.tell(w, t);
        Check.due("of each before", s.count(1), 7);
        s.mark(t);
        Check.due("marked", s.count(1), 7);
        Check.due("two go", s.sweep(), 2);
        Check.due("once behind", s.count(1), 5);
        s.mark(r);
        s.sweep();
        Check.due("without the thing", s.count(1), 2);
        s.sweep();
        Check.due("without all", s.count(1), 0);
    }

    private static void countAll() {
        Check.sentence("Promise 21", "How many nodes .. pushed (2), leaders that are variables (3), leaders that "
                + "touched() tells (4), marked nodes (5)");
        TreeStore s = new TreeStore();
        int a = s.variable();
        int b = s.variable();
        int c = s.variable();
        int one = s.number(1);
        Make.pushAll(s, 1, a, 2, b);
        int[] first = {4, 0, 2, 3, 0, 0};
        countsAre(s, first);
        s.tell(a, b);
        int[] second = {4, 0, 2, 2, 2, 0};
        countsAre(s, second);
        s.tell(c, one);
        s.mark(one);
        int[] third = {4, 0, 2, 1, 1, 2};
        countsAre(s, third);
        s.record(1);
        int[] fourth = {5, 2, 0, 1, 1, 0};
        countsAre(s, fourth);
    }

    private static void countsAre(TreeStore s, int[] want) {
        for (int what = 0; what < want.length; what++) {
            Check.due("count " + what, s.count(what), want[what]);
        }
    }
}
