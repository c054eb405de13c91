/**
 * Each sentence of the document's "Terms" that names a boundary, with a method of its own. The limits of nodes and
 * fields are in LimitsTest.
 */
public final class TermsTest {
    private static final int NONE = -1;
    private static final int FULL = -2;
    private static final int LOW = Integer.MIN_VALUE;
    private static final int HIGH = Integer.MAX_VALUE;

    public static void main(String[] args) {
        numbersFromZeroOn();
        theLeastNumberThatNoNodeHas();
        theLeastNumberForEachKind();
        aNodeThatIsTheSameKeepsItsNumber();
        anyInt();
        atoms();
        labels();
        fieldsOfARecord();
        codes();
        fieldsOfAThing();
        numberFeatures();
        atomFeatures();
        differentFeatures();
        orderOfFeatures();
        orderOfFeaturesDecidesNothing();
        toldToBeTheSame();
        partsByOneFeature();
        partsOfThingsAreNot();
        equalIsNotTheSame();
        determined();
        theLeader();
        finiteOrNot();
        numberOrAtomItself();
        labelFeaturesAndParts();
        atAnyDepth();
        aThingAlone();
        holds();
        needed();
        marksGo();
        marksStay();
        Check.finish();
    }

    private static void terms(String words) {
        Check.sentence("Terms", words);
    }

    private static void numbersFromZeroOn() {
        terms("NODES have numbers from 0 on");
        TreeStore s = new TreeStore();
        for (int i = 0; i < 100; i++) {
            Check.due("node above", s.look(i, 0L, 0), NONE);
            Check.due("variable", s.variable(), i);
        }
        Check.due("node 0", s.look(0, 0L, 0), 0);
        Check.due("node 99", s.look(99, 0L, 0), 0);
        Check.due("node 100", s.look(100, 0L, 0), NONE);
        Check.due("node -1", s.look(-1, 0L, 0), NONE);
    }

    private static void theLeastNumberThatNoNodeHas() {
        terms("a new node gets the least number that no node has");
        TreeStore s = new TreeStore();
        for (int i = 0; i < 20; i++) {
            s.variable();
        }
        int[] staying = {1, 2, 4, 17};
        for (int n : staying) {
            s.mark(n);
        }
        s.sweep();
        int[] want = {0, 3, 5, 6, 7, 8, 9, 10, 11, 12, 13, 14, 15, 16, 18, 19, 20};
        for (int n : want) {
            Check.due("variable", s.variable(), n);
        }
        s.mark(20);
        s.sweep();
        Check.due("0 again", s.variable(), 0);
        s.clear();
        Check.due("0 after clear", s.variable(), 0);
        Check.due("1 after clear", s.variable(), 1);
    }

    private static void theLeastNumberForEachKind() {
        terms("a new node gets the least number that no node has");
        Check.due("variable", Make.withHole().variable(), 1);
        Check.due("number", Make.withHole().number(5), 1);
        Check.due("atom", Make.withHole().atom(5), 1);
        Check.due("record", Make.record(Make.withHole(), 5, 1, 0), 1);
        Check.due("thing", Make.thing(Make.withHole(), 5, 1, 0), 1);
        TreeStore s = Make.withHole();
        Check.due("atom -1 makes none", s.atom(-1), NONE);
        Check.due("then the hole", s.variable(), 1);
        Check.due("then above all", s.variable(), 4);
    }

    private static void aNodeThatIsTheSameKeepsItsNumber() {
        terms("a new node gets the least number that no node has");
        TreeStore s = new TreeStore();
        s.variable();
        s.variable();
        s.tell(0, 1);
        Check.due("variable", s.variable(), 2);
        s.mark(1);
        s.sweep();
        Check.due("behind sweep", s.variable(), 1);
    }

    private static void anyInt() {
        terms("a NUMBER (any int)");
        TreeStore s = new TreeStore();
        int[] values = {LOW, LOW + 1, -32769, -8193, -3, -2, -1, 0, 1, 8191, 8192, 9999, 10000, 65536, HIGH - 1, HIGH};
        for (int i = 0; i < values.length; i++) {
            Check.due("number " + values[i], s.number(values[i]), i);
            Check.due("its kind", s.look(i, 0L, 0), 1);
            Check.due("its number", s.look(i, 0L, 1), values[i]);
        }
        for (int i = 0; i < values.length; i++) {
            for (int k = 0; k < values.length; k++) {
                Check.due("ask " + values[i] + " and " + values[k], s.ask(i, k), i == k ? 1 : 0);
            }
        }
    }

    private static void atoms() {
        terms("an ATOM (0 .. 8191)");
        TreeStore s = new TreeStore();
        Check.due("atom 0", s.atom(0), 0);
        Check.due("atom 8191", s.atom(8191), 1);
        Check.due("atom -1", s.atom(-1), NONE);
        Check.due("atom 8192", s.atom(8192), NONE);
        Check.due("what atom 0 is", s.look(0, 0L, 1), 0);
        Check.due("what atom 8191 is", s.look(1, 0L, 1), 8191);
    }

    private static void labels() {
        terms("a RECORD (a label, which is an atom's number");
        TreeStore s = new TreeStore();
        s.variable();
        s.push(1, 0);
        Check.due("label -1", s.record(-1), NONE);
        Check.due("label 8192", s.record(8192), NONE);
        Check.due("label 0", s.record(0), 1);
        s.push(1, 0);
        Check.due("label 8191", s.record(8191), 2);
        Check.due("the lowest label", s.look(1, 0L, 1), 0);
        Check.due("the highest label", s.look(2, 0L, 1), 8191);
    }

    private static void fieldsOfARecord() {
        terms("a RECORD (a label .. and 1 .. 255 FIELDS)");
        TreeStore s = new TreeStore();
        s.variable();
        Check.due("with none", s.record(1), NONE);
        Check.due("with one", Make.record(s, 1, 1, 0), 1);
        Check.due("it has one", s.look(1, 0L, 2), 1);
        Make.pushMany(s, 1, 256, 0);
        Check.due("with all that could be pushed", s.record(1), 2);
        Check.due("it has 255", s.look(2, 0L, 2), 255);
        Check.due("the last is there", s.part(2, 255), 0);
        Check.due("one more is not", s.part(2, 256), NONE);
    }

    private static void codes() {
        terms("a THING (a code from 0 on");
        TreeStore s = new TreeStore();
        int[] right = {0, 1, 8191, 8192, 65536, HIGH};
        for (int i = 0; i < right.length; i++) {
            Check.due("code " + right[i], s.thing(right[i]), i);
            Check.due("its code", s.look(i, 0L, 1), right[i]);
        }
        Check.due("code -1", s.thing(-1), NONE);
        Check.due("the least int", s.thing(LOW), NONE);
    }

    private static void fieldsOfAThing() {
        terms("a THING (a code from 0 on, and 0 .. 255 fields)");
        TreeStore s = new TreeStore();
        Check.due("with none", s.thing(1), 0);
        Check.due("it has none", s.look(0, 0L, 2), 0);
        Check.due("no feature", s.feature(0, 0L, 0), 0);
        Check.due("no part", s.look(0, 1L, 0), NONE);
        Make.pushMany(s, 1, 256, 0);
        Check.due("with all that could be pushed", s.thing(1), 1);
        Check.due("it has 255", s.look(1, 0L, 2), 255);
        Check.due("the last can be set", s.set(1, 255, 1), 0);
        Check.due("one more can't", s.set(1, 256, 1), NONE);
    }

    private static void numberFeatures() {
        terms("Features are numbers, 1 .. 9999");
        TreeStore s = new TreeStore();
        s.variable();
        Check.due("feature 0", s.push(0, 0), NONE);
        Check.due("feature 10000", s.push(10000, 0), NONE);
        Check.due("feature 1", s.push(1, 0), 1);
        Check.due("feature 9999", s.push(9999, 0), 2);
        Check.due("the greatest int", s.push(HIGH, 0), NONE);
        s.record(1);
        Check.due("the first", s.feature(1, 0L, 0), 1);
        Check.due("the last", s.feature(1, 0L, 1), 9999);
    }

    private static void atomFeatures() {
        terms("or atoms, -1 - k for atom k");
        TreeStore s = new TreeStore();
        s.variable();
        Check.due("no atom -1", s.push(0, 0), NONE);
        Check.due("no atom 8192", s.push(-1 - 8192, 0), NONE);
        Check.due("atom 0", s.push(-1, 0), 1);
        Check.due("atom 8191", s.push(-1 - 8191, 0), 2);
        Check.due("the least int", s.push(LOW, 0), NONE);
        s.record(1);
        Check.due("the first", s.feature(1, 0L, 0), -1);
        Check.due("the last", s.feature(1, 0L, 1), -8192);
    }

    private static void differentFeatures() {
        terms("all features of a record or thing are different");
        TreeStore s = new TreeStore();
        s.variable();
        s.variable();
        s.push(7, 0);
        Check.due("once more", s.push(7, 1), NONE);
        Check.due("the atom is another", s.push(-7, 1), 2);
        Check.due("and only once, too", s.push(-7, 0), NONE);
        int r = s.record(1);
        Check.due("the first part counts", s.part(r, 7), 0);
        Check.due("and the atom's", s.part(r, -7), 1);
        Check.due("for the next one it is free", s.push(7, 1), 1);
        s.clear();
        s.variable();
        Check.due("and behind clear", s.push(7, 0), 1);
        s.sweep();
        s.variable();
        Check.due("and behind sweep", s.push(7, 0), 1);
    }

    private static void orderOfFeatures() {
        terms("and stand by numbers, then by atoms");
        TreeStore s = new TreeStore();
        s.variable();
        int[] features = {-8192, -1, 9999, -2, 1, -8191, 2, 9998};
        int[] order = {1, 2, 9998, 9999, -1, -2, -8191, -8192};
        for (int turn = 0; turn < features.length; turn++) {
            for (int i = 0; i < features.length; i++) {
                s.push(features[(i + turn) % features.length], 0);
            }
            int n = turn % 2 == 0 ? s.record(1) : s.thing(1);
            for (int i = 0; i < order.length; i++) {
                Check.due("feature " + i, s.feature(n, 0L, i), order[i]);
            }
        }
    }

    private static void orderOfFeaturesDecidesNothing() {
        terms("and stand by numbers, then by atoms");
        TreeStore s = new TreeStore();
        int a = s.variable();
        int b = s.variable();
        int r = Make.record(s, 1, -1, a, 5, b);
        int q = Make.record(s, 1, 5, b, -1, a);
        Check.due("the first part", s.look(r, 1L, 3), b);
        Check.due("the second part", s.look(r, 2L, 3), a);
        Check.due("pushed in another order", s.ask(r, q), 1);
        Check.due("alike, too", s.like(r, q), true);
    }

    private static void toldToBeTheSame() {
        terms("Nodes are THE SAME when they were told to be");
        TreeStore s = new TreeStore();
        for (int i = 0; i < 6; i++) {
            s.variable();
        }
        s.tell(5, 4);
        s.tell(2, 3);
        Check.due("two that were told", s.look(5, 0L, 3), 4);
        Check.due("two others", s.look(3, 0L, 3), 2);
        Check.due("not those", s.ask(3, 4), -1);
        s.tell(3, 5);
        for (int n = 2; n <= 5; n++) {
            Check.due("by a chain " + n, s.look(n, 0L, 3), 2);
        }
        Check.due("one that was not told", s.look(1, 0L, 3), 1);
        Check.due("itself", s.ask(0, 0), 1);
    }

    private static void partsByOneFeature() {
        terms("or are parts, by one feature, of records that are the same");
        TreeStore s = new TreeStore();
        int[] v = {s.variable(), s.variable(), s.variable(), s.variable()};
        int inner = Make.record(s, 2, 1, v[0], -1, v[1]);
        int other = Make.record(s, 2, -1, v[2], 1, v[3]);
        int r = Make.record(s, 1, 9, inner);
        int q = Make.record(s, 1, 9, other);
        s.tell(r, q);
        Check.due("the parts", s.look(other, 0L, 3), inner);
        Check.due("their parts by 1", s.look(v[3], 0L, 3), v[0]);
        Check.due("their parts by an atom", s.look(v[2], 0L, 3), v[1]);
        Check.due("not by two features", s.ask(v[0], v[1]), -1);
    }

    private static void partsOfThingsAreNot() {
        terms("or are parts, by one feature, of records that are the same");
        TreeStore s = new TreeStore();
        int a = s.variable();
        int b = s.variable();
        int t = Make.thing(s, 1, 1, a);
        int v = s.variable();
        s.tell(v, t);
        s.set(t, 1, b);
        s.tell(v, t);
        Check.due("a part before and one now", s.ask(a, b), -1);
        Check.due("stay two", s.look(b, 0L, 3), b);
    }

    private static void equalIsNotTheSame() {
        terms("Nodes are THE SAME when they were told to be");
        TreeStore s = new TreeStore();
        int a = s.number(1);
        int b = s.number(1);
        int r = Make.record(s, 1, 1, a);
        int q = Make.record(s, 1, 1, b);
        Check.due("equal", s.ask(r, q), 1);
        Check.due("not the same", s.look(q, 0L, 3), q);
        Check.due("marked alone", s.mark(q), q);
        Check.due("with its part", s.count(5), 2);
    }

    private static void determined() {
        terms("A node that is the same as one that is no variable is DETERMINED: it is what that one is");
        TreeStore s = new TreeStore();
        int[] bodies = {s.number(-4), s.atom(4), Make.record(s, 5, 1, 0), Make.thing(s, 6, 1, 0, 2, 1)};
        for (int body : bodies) {
            int high = s.variable();
            int higher = s.variable();
            s.tell(higher, high);
            s.tell(high, body);
            for (int what = 0; what < 5; what++) {
                Check.due("look " + what, s.look(higher, 0L, what), s.look(body, 0L, what));
            }
            Check.due("feature", s.feature(higher, 0L, 0), s.feature(body, 0L, 0));
            Check.due("part", s.part(higher, 1), s.part(body, 1));
        }
        Check.due("no variables", s.count(3), 0);
    }

    private static void theLeader() {
        terms("The LEADER of a node is the least one that is the same");
        TreeStore s = new TreeStore();
        int low = s.variable();
        int number = s.number(1);
        int high = s.variable();
        Check.due("alone", s.look(high, 0L, 3), high);
        s.tell(high, number);
        Check.due("a number below", s.look(high, 0L, 3), number);
        s.tell(number, low);
        Check.due("a variable below", s.look(number, 0L, 3), low);
        Check.due("of all", s.look(high, 0L, 3), low);
        Check.due("of itself", s.look(low, 0L, 3), low);
    }

    private static void finiteOrNot() {
        terms("What a determined node stands for is a tree, finite or not");
        TreeStore s = new TreeStore();
        int x = s.variable();
        int r = Make.record(s, 1, 1, x);
        Check.due("its own part", s.tell(x, r), true);
        Check.due("round and round", s.look(x, 0x0101010101010101L, 3), x);
        Check.due("equal to itself", s.ask(x, r), 1);
        int outer = Make.record(s, 1, 1, r);
        Check.due("and to one around it", s.ask(outer, x), 1);
        int finite = Make.record(s, 1, 1, s.number(1));
        Check.due("not to a finite one", s.ask(finite, x), 0);
    }

    private static void numberOrAtomItself() {
        terms("of a number or atom itself");
        TreeStore s = new TreeStore();
        int n = s.number(3);
        int k = s.atom(3);
        Check.due("number and number", s.ask(n, s.number(3)), 1);
        Check.due("atom and atom", s.ask(k, s.atom(3)), 1);
        Check.due("number and atom", s.ask(n, k), 0);
        Check.due("they can't be told", s.tell(n, k), false);
        Check.due("number and other number", s.ask(n, s.number(4)), 0);
        Check.due("atom and other atom", s.ask(k, s.atom(4)), 0);
        Check.due("an atom is no thing", s.ask(k, s.thing(3)), 0);
    }

    private static void labelFeaturesAndParts() {
        terms("of a record its label, features and the trees of its parts");
        TreeStore s = new TreeStore();
        int one = s.number(1);
        int r = Make.record(s, 1, 1, one, 2, one);
        Check.due("all alike", s.ask(r, Make.record(s, 1, 1, s.number(1), 2, one)), 1);
        Check.due("another label", s.ask(r, Make.record(s, 2, 1, one, 2, one)), 0);
        Check.due("another feature", s.ask(r, Make.record(s, 1, 1, one, 3, one)), 0);
        Check.due("an atom for a number", s.ask(r, Make.record(s, 1, 1, one, -2, one)), 0);
        Check.due("one feature less", s.ask(r, Make.record(s, 1, 1, one)), 0);
        Check.due("one feature more", s.ask(r, Make.record(s, 1, 1, one, 2, one, 3, one)), 0);
        Check.due("another part", s.ask(r, Make.record(s, 1, 1, one, 2, s.number(2))), 0);
        Check.due("the label's atom", s.ask(r, s.atom(1)), 0);
    }

    private static void atAnyDepth() {
        terms("Two trees are EQUAL when nothing tells them apart, at any depth");
        TreeStore s = new TreeStore();
        int[] ends = {s.number(1), s.number(1), s.number(2), s.variable()};
        int[] chains = ends.clone();
        for (int depth = 0; depth < 40; depth++) {
            for (int i = 0; i < chains.length; i++) {
                chains[i] = Make.record(s, 1, 1, chains[i]);
            }
        }
        Check.due("with nothing between them", s.ask(chains[0], chains[1]), 1);
        Check.due("told apart at the end", s.ask(chains[0], chains[2]), 0);
        Check.due("perhaps at the end", s.ask(chains[0], chains[3]), -1);
        Check.due("it hangs on the end", s.hangs(chains[0], chains[3], 0), ends[3]);
        Check.due("told at the end", s.tell(chains[3], chains[2]), true);
        Check.due("the end is known", s.look(ends[3], 0L, 1), 2);
    }

    private static void aThingAlone() {
        terms("a thing is equal to itself alone");
        TreeStore s = new TreeStore();
        int t = s.thing(1);
        int u = s.thing(1);
        Check.due("itself", s.ask(t, t), 1);
        Check.due("another without fields", s.ask(t, u), 0);
        Check.due("can't be told", s.tell(t, u), false);
        Check.due("itself can", s.tell(t, t), true);
        int r = Make.record(s, 1, 1, t);
        Check.due("in records", s.ask(r, Make.record(s, 1, 1, u)), 0);
        Check.due("itself in records", s.ask(r, Make.record(s, 1, 1, t)), 1);
        int v = s.variable();
        s.tell(v, t);
        Check.due("a variable that is it", s.ask(v, t), 1);
        Check.due("and is not another", s.ask(u, v), 0);
    }

    private static void holds() {
        terms("They HOLD when there are trees for all variables for which all that was told is equal");
        TreeStore s = new TreeStore();
        int x = s.variable();
        int y = s.variable();
        Check.due("x = f(y)", s.tell(x, Make.record(s, 1, 1, y)), true);
        Check.due("y = f(x): both infinite", s.tell(y, Make.record(s, 1, 1, x)), true);
        Check.due("x = y", s.tell(x, y), true);
        Check.due("x = g(x): no tree", s.tell(x, Make.record(s, 2, 1, x)), false);
        int z = s.variable();
        int w = s.variable();
        int pair = Make.record(s, 3, 1, z, 2, w);
        int crossed = Make.record(s, 3, 1, w, 2, Make.record(s, 1, 1, z));
        Check.due("z = w = f(z)", s.tell(pair, crossed), true);
        Check.due("w is infinite, too", s.ask(w, x), 1);
    }

    private static void needed() {
        terms("A determined node is NEEDED; a variable is when it was said to be, or is the same as such");
        TreeStore s = new TreeStore();
        int[] v = {s.variable(), s.variable(), s.variable(), s.variable()};
        int[] bodies = {s.number(1), s.atom(1), Make.record(s, 1, 1, v[0]), s.thing(1)};
        for (int body : bodies) {
            Check.due("determined", s.look(body, 0L, 4), 1);
        }
        Check.due("a variable", s.look(v[0], 0L, 4), 0);
        s.need(v[1]);
        Check.due("said to be", s.look(v[1], 0L, 4), 1);
        s.tell(v[2], v[0]);
        Check.due("the same as one that is not", s.look(v[2], 0L, 4), 0);
        s.tell(v[2], v[1]);
        Check.due("the same as such, below", s.look(v[0], 0L, 4), 1);
        Check.due("the same as such, above", s.look(v[2], 0L, 4), 1);
        Check.due("another one", s.look(v[3], 0L, 4), 0);
    }

    private static void marksGo() {
        terms("MARKS, which mark() makes, go when a node is made, a tell() is true, or a part is set");
        for (int way = 0; way < 8; way++) {
            TreeStore s = new TreeStore();
            int v = s.variable();
            int t = Make.thing(s, 1, 1, v);
            s.push(1, v);
            s.mark(t);
            Check.due("marks", s.count(5), 2);
            dropMarks(s, way, v, t);
            Check.due("marks behind way " + way, s.count(5), 0);
            Check.due("all go then by way " + way, s.count(0), s.sweep());
        }
    }

    private static void dropMarks(TreeStore s, int way, int v, int t) {
        switch (way) {
            case 0: Check.due("variable", s.variable(), 2); break;
            case 1: Check.due("number", s.number(0), 2); break;
            case 2: Check.due("atom", s.atom(0), 2); break;
            case 3: Check.due("record", s.record(0), 2); break;
            case 4: Check.due("thing", s.thing(0), 2); break;
            case 5: Check.due("tell", s.tell(v, t), true); break;
            case 6: Check.due("tell what was told", s.tell(t, t), true); break;
            default: Check.due("set", s.set(t, 1, v), v); break;
        }
    }

    private static void marksStay() {
        terms("MARKS, which mark() makes, go when a node is made, a tell() is true, or a part is set");
        TreeStore s = new TreeStore();
        int v = s.variable();
        int t = Make.thing(s, 1, 1, v);
        int n = s.number(1);
        s.mark(t);
        Check.due("record of nothing", s.record(0), NONE);
        Check.due("push", s.push(1, v), 1);
        Check.due("atom", s.atom(8192), NONE);
        Check.due("record", s.record(8192), NONE);
        Check.due("thing", s.thing(-1), NONE);
        Check.due("tell", s.tell(n, t), false);
        Check.due("tell no node", s.tell(t, 3), false);
        Check.due("set", s.set(t, 2, v), NONE);
        Check.due("set no thing", s.set(n, 1, v), NONE);
        Check.due("set no node", s.set(t, 1, 3), NONE);
        Check.due("ask", s.ask(v, n), -1);
        Check.due("hangs", s.hangs(v, n, 0), v);
        Check.due("like", s.like(v, n), false);
        Check.due("need", s.need(v), true);
        Check.due("mark no node", s.mark(3), NONE);
        Check.due("marks", s.count(5), 2);
        Check.due("the number goes", s.sweep(), 1);
        Make.pushMany(s, 1, 255, v);
        s.mark(v);
        Check.due("push too many", s.push(256, v), FULL);
        Check.due("one mark", s.count(5), 1);
    }
}
