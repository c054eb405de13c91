/** What each promise says, its edges and wrong inputs, one method a promise; names as in the document. */
public final class PromisesTest {
    private static final int NONE = -1;
    private static final int FULL = -2;
    private static final int INT_LOW = Integer.MIN_VALUE;
    private static final int INT_HIGH = Integer.MAX_VALUE;

    public static void main(String[] args) {
        promise1();
        promise2();
        promise3();
        promise4();
        promise5();
        promise5Full();
        promise6();
        promise7();
        promise8();
        promise8Refused();
        promise8Rings();
        promise9();
        promise9Rings();
        promise10();
        promise11();
        promise12();
        promise12Many();
        promise13();
        promise13Paths();
        promise14();
        promise15();
        promise16();
        promise17();
        promise17Given();
        promise17Rings();
        promise18();
        promise18Gone();
        promise19();
        promise19Leaders();
        promise19Twice();
        promise20();
        promise21();
        Check.finish();
    }

    private static void counts(String when, TreeStore s, int... want) {
        for (int what = 0; what < want.length; what++) {
            Check.due(when + " count(" + what + ")", s.count(what), want[what]);
        }
    }

    private static void promise1() {
        TreeStore s = new TreeStore();
        counts("1 new:", s, 0, 0, 0, 0, 0, 0);
        Check.due("1 look", s.look(0, 0L, 0), NONE);
        Check.due("1 touched", s.touched(0), NONE);
        Check.due("1 tell", s.tell(0, 0), false);
        Check.due("1 ask", s.ask(0, 0), -2);
        Check.due("1 like", s.like(0, 0), false);
        Check.due("1 sweep", s.sweep(), 0);
        Check.due("1 clear", s.clear(), 0);
        Check.due("1 record", s.record(0), NONE);
        s.variable();
        Check.due("1 another object", new TreeStore().count(0), 0);
    }

    private static void promise2() {
        TreeStore s = new TreeStore();
        Check.due("2 first", s.variable(), 0);
        Check.due("2 second", s.variable(), 1);
        Check.due("2 kind", s.look(1, 0L, 0), 0);
        Check.due("2 value", s.look(1, 0L, 1), 0);
        Check.due("2 not needed", s.look(1, 0L, 4), 0);
        s.variable();
        s.mark(0);
        s.mark(2);
        s.sweep();
        Check.due("2 the least free", s.variable(), 1);
        Check.due("2 the next free", s.variable(), 3);
        s.need(3);
        s.mark(0);
        s.sweep();
        s.variable();
        s.variable();
        Check.due("2 a number again", s.variable(), 3);
        Check.due("2 is not needed again", s.look(3, 0L, 4), 0);
    }

    private static void promise3() {
        TreeStore s = new TreeStore();
        int[] values = {0, -1, -2, 7, INT_LOW, INT_HIGH};
        for (int i = 0; i < values.length; i++) {
            Check.due("3 number", s.number(values[i]), i);
            Check.due("3 kind", s.look(i, 0L, 0), 1);
            Check.due("3 value", s.look(i, 0L, 1), values[i]);
        }
        Check.due("3 a new one", s.number(7), 6);
        Check.due("3 needed", s.look(6, 0L, 4), 1);
    }

    private static void promise4() {
        TreeStore s = new TreeStore();
        Check.due("4 lowest", s.atom(0), 0);
        Check.due("4 highest", s.atom(8191), 1);
        Check.due("4 a new one", s.atom(0), 2);
        Check.due("4 above", s.atom(8192), NONE);
        Check.due("4 below", s.atom(-1), NONE);
        Check.due("4 far below", s.atom(INT_LOW), NONE);
        Check.due("4 far above", s.atom(INT_HIGH), NONE);
        Check.due("4 kind", s.look(1, 0L, 0), 2);
        Check.due("4 atom", s.look(1, 0L, 1), 8191);
        Check.due("4 refused makes none", s.count(0), 3);
    }

    private static void promise5() {
        TreeStore s = new TreeStore();
        Check.due("5 no node yet", s.push(1, 0), NONE);
        s.variable();
        int[] wrong = {0, 10000, -8193, INT_LOW, INT_HIGH};
        for (int f : wrong) {
            Check.due("5 no feature " + f, s.push(f, 0), NONE);
        }
        int[] right = {1, 9999, -1, -8192, 2};
        for (int i = 0; i < right.length; i++) {
            Check.due("5 feature " + right[i], s.push(right[i], 0), i + 1);
            Check.due("5 twice " + right[i], s.push(right[i], 0), NONE);
        }
        Check.due("5 no such node", s.push(3, 1), NONE);
        Check.due("5 node below", s.push(3, -1), NONE);
        Check.due("5 node far below", s.push(3, INT_LOW), NONE);
        Check.due("5 node far above", s.push(3, INT_HIGH), NONE);
        Check.due("5 how many", s.count(2), 5);
        Check.due("5 what else comes leaves them", s.number(3), 1);
        s.tell(0, 1);
        s.mark(0);
        Check.due("5 still", s.count(2), 5);
    }

    private static void promise5Full() {
        TreeStore s = new TreeStore();
        s.variable();
        for (int i = 1; i <= 255; i++) {
            Check.due("5 many", s.push(256 - i, 0), i);
        }
        Check.due("5 full", s.push(256, 0), FULL);
        Check.due("5 refused before full: no feature", s.push(0, 0), NONE);
        Check.due("5 refused before full: no node", s.push(256, 1), NONE);
        Check.due("5 refused before full: twice", s.push(255, 0), NONE);
        Check.due("5 full makes none", s.count(2), 255);
        Check.due("5 record", s.record(1), 1);
        Check.due("5 fields", s.look(1, 0L, 2), 255);
        Check.due("5 highest part", s.look(1, 255L, 3), 0);
        Check.due("5 lowest feature", s.feature(1, 0L, 0), 1);
        Check.due("5 highest feature", s.feature(1, 0L, 254), 255);
        Check.due("5 empty again", s.push(256, 0), 1);
    }

    private static void promise6() {
        TreeStore s = new TreeStore();
        s.variable();
        Check.due("6 nothing pushed", s.record(0), NONE);
        s.push(1, 0);
        Check.due("6 label above", s.record(8192), NONE);
        Check.due("6 label below", s.record(-1), NONE);
        Check.due("6 label far below", s.record(INT_LOW), NONE);
        Check.due("6 refused keeps what is pushed", s.count(2), 1);
        Check.due("6 record", s.record(8191), 1);
        Check.due("6 none are pushed then", s.count(2), 0);
        Check.due("6 kind", s.look(1, 0L, 0), 3);
        Check.due("6 label", s.look(1, 0L, 1), 8191);
        Check.due("6 again nothing pushed", s.record(0), NONE);
        s.push(1, 0);
        Check.due("6 lowest label", s.record(0), 2);
    }

    private static void promise7() {
        TreeStore s = new TreeStore();
        Check.due("7 without fields", s.thing(0), 0);
        Check.due("7 kind", s.look(0, 0L, 0), 4);
        Check.due("7 no fields", s.look(0, 0L, 2), 0);
        Check.due("7 below", s.thing(-1), NONE);
        Check.due("7 far below", s.thing(INT_LOW), NONE);
        s.push(-1, 0);
        s.push(5, 0);
        Check.due("7 refused", s.thing(-1), NONE);
        Check.due("7 refused keeps what is pushed", s.count(2), 2);
        Check.due("7 highest code", s.thing(INT_HIGH), 1);
        Check.due("7 code", s.look(1, 0L, 1), INT_HIGH);
        Check.due("7 fields", s.look(1, 0L, 2), 2);
        Check.due("7 none are pushed then", s.count(2), 0);
    }

    private static void promise8() {
        TreeStore s = new TreeStore();
        int a = s.variable();
        int b = s.variable();
        int c = s.variable();
        int r = Make.record(s, 1, 1, a, 2, b);
        int five = s.number(5);
        int q = Make.record(s, 1, 2, c, 1, five);
        Check.due("8 records", s.tell(r, q), true);
        Check.due("8 a part is determined", s.look(a, 0L, 1), 5);
        Check.due("8 parts are the same", s.look(c, 0L, 3), b);
        Check.due("8 the records are the same", s.look(q, 0L, 3), r);
        Check.due("8 five is the same", s.look(five, 0L, 3), a);
        int six = s.number(6);
        Check.due("8 through parts", s.tell(c, six), true);
        Check.due("8 both parts", s.look(q, 2L, 1), 6);
        Check.due("8 at the other end", s.look(b, 0L, 1), 6);
        Check.due("8 itself", s.tell(a, a), true);
        Check.due("8 no such node", s.tell(a, 99), false);
        Check.due("8 no such node first", s.tell(-1, a), false);
        Check.due("8 no such nodes", s.tell(INT_LOW, INT_HIGH), false);
        int t = s.thing(1);
        int v = s.variable();
        int w = s.variable();
        Check.due("8 a thing", s.tell(v, t), true);
        Check.due("8 a variable with it", s.tell(w, v), true);
        Check.due("8 a thing with itself", s.tell(w, t), true);
        Check.due("8 what a variable is then", s.look(w, 0L, 0), 4);
        Check.due("8 leader of a thing", s.look(w, 0L, 3), t);
    }

    private static void promise8Refused() {
        TreeStore s = new TreeStore();
        int a = s.variable();
        int one = s.number(1);
        int two = s.number(2);
        int x = Make.record(s, 1, 1, a, 2, one);
        int y = Make.record(s, 1, 1, one, 2, two);
        s.need(a);
        s.mark(x);
        Check.due("8 a clash behind a binding", s.tell(x, y), false);
        Check.due("8 nothing changes", s.look(a, 0L, 0), 0);
        Check.due("8 touched stays", s.touched(0), a);
        Check.due("8 marks stay", s.count(5), 3);
        Check.due("8 records stay apart", s.look(y, 0L, 3), y);
        int atom = s.atom(1);
        int label = Make.record(s, 2, 1, a, 2, one);
        int feature = Make.record(s, 1, 1, a, 3, one);
        int more = Make.record(s, 1, 1, a, 2, one, 3, one);
        int thing = Make.thing(s, 1, 1, a, 2, one);
        int other = Make.thing(s, 1, 1, a, 2, one);
        int[] all = {one, two, atom, x, label, feature, more, thing, other};
        for (int p : all) {
            for (int q : all) {
                Check.due("8 tell(" + p + ", " + q + ")", s.tell(p, q), p == q);
                Check.due("8 ask(" + p + ", " + q + ")", s.ask(p, q), p == q ? 1 : 0);
            }
        }
        Check.due("8 a label is no atom", s.tell(atom, x), false);
    }

    private static void promise8Rings() {
        TreeStore s = new TreeStore();
        int x = s.variable();
        Check.due("8 a ring", s.tell(x, Make.record(s, 1, 1, x)), true);
        int y = s.variable();
        Check.due("8 a longer ring", s.tell(Make.record(s, 1, 1, Make.record(s, 1, 1, y)), y), true);
        Check.due("8 rings are equal", s.tell(y, x), true);
        Check.due("8 all are the same", s.look(y, 0x0101010101010101L, 3), x);
        int z = s.variable();
        int odd = Make.record(s, 1, 1, Make.record(s, 2, 1, z));
        s.tell(z, odd);
        Check.due("8 a ring of two labels", s.tell(z, x), false);
        Check.due("8 is as before", s.look(z, 0x01L, 1), 2);
    }

    private static void promise9() {
        TreeStore s = new TreeStore();
        int a = s.variable();
        int b = s.variable();
        Check.due("9 itself", s.ask(a, a), 1);
        Check.due("9 two variables", s.ask(a, b), -1);
        Check.due("9 no such node", s.ask(a, 9), -2);
        Check.due("9 no such node first", s.ask(-1, a), -2);
        Check.due("9 far off", s.ask(INT_HIGH, INT_LOW), -2);
        int r = Make.record(s, 1, 1, a);
        int q = Make.record(s, 1, 1, b);
        Check.due("9 perhaps", s.ask(r, q), -1);
        Check.due("9 asking changes nothing", s.look(b, 0L, 3), b);
        Check.due("9 a variable and a record", s.ask(a, r), -1);
        s.tell(a, b);
        Check.due("9 told parts", s.ask(r, q), 1);
        Check.due("9 equal, not the same", s.look(q, 0L, 3), q);
        int p = Make.record(s, 2, 1, a);
        Check.due("9 for none", s.ask(r, p), 0);
        int both = Make.record(s, 3, 1, a, 2, s.number(1));
        int none = Make.record(s, 3, 1, s.number(2), 2, s.number(2));
        Check.due("9 for none behind a binding", s.ask(both, none), 0);
        int twice = Make.record(s, 4, 1, a, 2, a);
        int clash = Make.record(s, 4, 1, s.number(1), 2, s.number(2));
        Check.due("9 for none by two bindings", s.ask(twice, clash), 0);
        int t = Make.thing(s, 1, 1, a);
        int u = Make.thing(s, 1, 1, a);
        Check.due("9 things", s.ask(t, u), 0);
        Check.due("9 a thing and a variable", s.ask(t, a), -1);
        Check.due("9 things in records", s.ask(Make.record(s, 1, 1, t), Make.record(s, 1, 1, u)), 0);
        Check.due("9 one thing in records", s.ask(Make.record(s, 1, 1, t), Make.record(s, 1, 1, t)), 1);
        Check.due("9 numbers", s.ask(s.number(3), s.number(3)), 1);
        Check.due("9 number and atom", s.ask(s.number(3), s.atom(3)), 0);
    }

    private static void promise9Rings() {
        TreeStore s = new TreeStore();
        int z = s.variable();
        int x = s.variable();
        s.tell(x, Make.record(s, 1, 1, x, 2, z));
        int y = s.variable();
        s.tell(y, Make.record(s, 1, 1, Make.record(s, 1, 1, y, 2, z), 2, z));
        Check.due("9 rings", s.ask(x, y), 1);
        int w = s.variable();
        int v = s.variable();
        s.tell(w, Make.record(s, 1, 1, Make.record(s, 1, 1, w, 2, v), 2, z));
        Check.due("9 rings with a variable", s.ask(x, w), -1);
        Check.due("9 it hangs on one", s.hangs(x, w, 0), z);
        Check.due("9 and on another", s.hangs(x, w, 1), v);
        s.tell(v, s.number(1));
        Check.due("9 still perhaps", s.ask(x, w), -1);
        s.tell(z, s.number(2));
        Check.due("9 never now", s.ask(x, w), 0);
        Check.due("9 still always", s.ask(x, y), 1);
    }

    private static void promise10() {
        TreeStore s = new TreeStore();
        int a = s.variable();
        int b = s.variable();
        int c = s.variable();
        int d = s.variable();
        s.tell(d, b);
        int x = Make.record(s, 1, 1, d, 2, c, 3, a);
        int y = Make.record(s, 1, 1, a, 2, s.number(1), 3, b);
        Check.due("10 lowest", s.hangs(x, y, 0), a);
        Check.due("10 a leader", s.hangs(x, y, 1), b);
        Check.due("10 a determined one", s.hangs(x, y, 2), c);
        Check.due("10 not so many", s.hangs(x, y, 3), NONE);
        Check.due("10 below", s.hangs(x, y, -1), NONE);
        Check.due("10 far below", s.hangs(x, y, INT_LOW), NONE);
        Check.due("10 far above", s.hangs(x, y, INT_HIGH), NONE);
        Check.due("10 nothing changes", s.look(c, 0L, 0), 0);
        Check.due("10 equal", s.hangs(x, x, 0), NONE);
        Check.due("10 never", s.hangs(x, s.number(1), 0), NONE);
        int clash = Make.record(s, 1, 1, a, 2, c, 3, s.number(1));
        int other = Make.record(s, 1, 1, b, 2, c, 3, s.number(2));
        Check.due("10 never, behind bindings", s.hangs(clash, other, 0), NONE);
        Check.due("10 no such node", s.hangs(x, 99, 0), NONE);
        Check.due("10 no such node first", s.hangs(-1, x, 0), NONE);
        Check.due("10 a variable and a number", s.hangs(s.number(1), c, 0), c);
    }

    private static void promise11() {
        TreeStore s = new TreeStore();
        int a = s.variable();
        int b = s.variable();
        Check.due("11 no such node", s.need(2), false);
        Check.due("11 node below", s.need(-1), false);
        Check.due("11 far off", s.need(INT_HIGH), false);
        Check.due("11 not needed yet", s.look(a, 0L, 4), 0);
        Check.due("11 need", s.need(a), true);
        Check.due("11 twice", s.need(a), false);
        Check.due("11 needed", s.look(a, 0L, 4), 1);
        Check.due("11 another one", s.look(b, 0L, 4), 0);
        int r = Make.record(s, 1, 1, b);
        Check.due("11 a record", s.need(r), false);
        Check.due("11 its part", s.look(r, 1L, 4), 0);
        s.tell(b, a);
        Check.due("11 the same as a needed one", s.look(b, 0L, 4), 1);
        Check.due("11 needed already", s.need(b), false);
        int c = s.variable();
        int d = s.variable();
        s.need(d);
        s.tell(c, d);
        Check.due("11 the leader of a needed one", s.need(c), false);
        int e = s.variable();
        s.tell(e, s.number(1));
        Check.due("11 determined", s.need(e), false);
        Check.due("11 determined is needed", s.look(e, 0L, 4), 1);
        Check.due("11 a number", s.need(s.number(1)), false);
        int g = s.variable();
        s.mark(g);
        Check.due("11 marked", s.need(g), true);
        Check.due("11 marks stay", s.count(5), 1);
    }

    private static void promise12() {
        TreeStore s = new TreeStore();
        int a = s.variable();
        int b = s.variable();
        int c = s.variable();
        int d = s.variable();
        Check.due("12 nothing yet", s.touched(0), NONE);
        s.tell(d, c);
        Check.due("12 both", s.touched(0), c);
        Check.due("12 both, from below", s.touched(1), d);
        Check.due("12 not so many", s.touched(2), NONE);
        Check.due("12 below", s.touched(-1), NONE);
        Check.due("12 far off", s.touched(INT_HIGH), NONE);
        s.tell(d, a);
        Check.due("12 leaders before", s.touched(0), a);
        Check.due("12 leaders before, the other", s.touched(1), c);
        Check.due("12 two of them", s.count(4), 2);
        s.need(c);
        Check.due("12 need", s.touched(0), a);
        Check.due("12 need is one", s.count(4), 1);
        Check.due("12 need again", s.need(d), false);
        Check.due("12 stays", s.count(4), 1);
        int x = Make.record(s, 1, 1, b, 2, d);
        int y = Make.record(s, 1, 1, s.number(1), 2, s.number(2));
        Check.due("12 made nodes leave it", s.touched(0), a);
        s.tell(x, y);
        Check.due("12 determined", s.touched(0), a);
        Check.due("12 determined, too", s.touched(1), b);
        Check.due("12 records are no variables", s.count(4), 2);
        Check.due("12 refused", s.tell(a, b), false);
        Check.due("12 refused leaves it", s.count(4), 2);
        Check.due("12 asked", s.ask(a, s.variable()), -1);
        Check.due("12 asked leaves it", s.count(4), 2);
        Check.due("12 nothing new", s.tell(x, y), true);
        Check.due("12 nothing new tells none", s.count(4), 0);
        Check.due("12 none", s.touched(0), NONE);
    }

    private static void promise12Many() {
        TreeStore s = new TreeStore();
        int[] variables = new int[2 * 100];
        int[] numbers = new int[2 * 100];
        for (int i = 0; i < 100; i++) {
            variables[2 * i] = i + 1;
            variables[2 * i + 1] = s.variable();
            numbers[2 * i] = i + 1;
            numbers[2 * i + 1] = s.number(i);
        }
        int x = Make.record(s, 1, variables);
        int y = Make.record(s, 1, numbers);
        Check.due("12 many hang", s.hangs(x, y, 99), variables[199]);
        Check.due("12 many", s.tell(x, y), true);
        Check.due("12 so many", s.count(4), 100);
        Check.due("12 the first", s.touched(0), variables[1]);
        Check.due("12 the last", s.touched(99), variables[199]);
        Check.due("12 no more", s.touched(100), NONE);
    }

    private static void promise13() {
        TreeStore s = new TreeStore();
        int v = s.variable();
        int n = s.number(-9);
        int a = s.atom(8);
        int r = Make.record(s, 7, 1, v, 2, n);
        int t = Make.thing(s, 6, 1, r, -1, a, -2, v);
        int[][] want = {{0, 0, 0, v, 0}, {1, -9, 0, n, 1}, {2, 8, 0, a, 1}, {3, 7, 2, r, 1}, {4, 6, 3, t, 1}};
        for (int x = 0; x < want.length; x++) {
            for (int what = 0; what < 5; what++) {
                Check.due("13 look(" + x + ", 0, " + what + ")", s.look(x, 0L, what), want[x][what]);
            }
        }
        Check.due("13 another what", s.look(t, 0L, 5), NONE);
        Check.due("13 what below", s.look(t, 0L, -1), NONE);
        Check.due("13 what far off", s.look(t, 0L, INT_LOW), NONE);
        Check.due("13 no such node", s.look(5, 0L, 0), NONE);
        Check.due("13 node below", s.look(-1, 0L, 0), NONE);
        Check.due("13 node far off", s.look(INT_HIGH, 0L, 0), NONE);
        s.tell(v, t);
        Check.due("13 determined kind", s.look(v, 0L, 0), 4);
        Check.due("13 determined code", s.look(v, 0L, 1), 6);
        Check.due("13 determined fields", s.look(v, 0L, 2), 3);
        Check.due("13 determined leader", s.look(t, 0L, 3), v);
        Check.due("13 determined is needed", s.look(v, 0L, 4), 1);
    }

    private static void promise13Paths() {
        TreeStore s = new TreeStore();
        int v = s.variable();
        int n = s.number(4);
        int r = Make.record(s, 7, 9000, v, -3, n);
        int t = Make.thing(s, 6, 1, r, 2, v, 3, n);
        s.tell(v, t);
        Check.due("13 parts, not features", s.look(r, 1L, 3), v);
        Check.due("13 second part", s.look(r, 2L, 1), 4);
        Check.due("13 no third part", s.look(r, 3L, 0), NONE);
        Check.due("13 lowest byte first", s.look(t, 0x0201L, 1), 4);
        Check.due("13 highest byte last", s.look(t, 0x0102L, 3), r);
        Check.due("13 up to the first 0", s.look(t, 0x0900L, 3), v);
        Check.due("13 up to a later 0", s.look(t, 0x090001L, 3), r);
        Check.due("13 eight bytes", s.look(t, 0x0302020202020202L, 1), 4);
        Check.due("13 eight bytes, the last is none", s.look(t, 0x0402020202020202L, 1), NONE);
        Check.due("13 bytes have no sign", s.look(t, 0xFF02020202020202L, 1), NONE);
        Check.due("13 no part of a number", s.look(t, 0x0103L, 0), NONE);
        Check.due("13 all bytes", s.look(t, -1L, 0), NONE);
        int end = s.variable();
        int[] fields = new int[2 * 255];
        for (int i = 0; i < 255; i++) {
            fields[2 * i] = i + 1;
            fields[2 * i + 1] = i == 254 ? end : t;
        }
        int wide = Make.record(s, 1, fields);
        Check.due("13 the part number 255", s.look(wide, 0xFFL, 3), end);
        s.tell(end, wide);
        Check.due("13 eight times number 255", s.look(wide, -1L, 3), end);
        Check.due("13 number 254", s.look(wide, 0xFEL, 3), v);
    }

    private static void promise14() {
        TreeStore s = new TreeStore();
        int v = s.variable();
        int r = Make.record(s, 1, -8192, v, 9999, v, -1, v, 3, v, -2, v, 1, v);
        int[] want = {1, 3, 9999, -1, -2, -8192};
        for (int i = 0; i < want.length; i++) {
            Check.due("14 feature " + i, s.feature(r, 0L, i), want[i]);
        }
        Check.due("14 none above", s.feature(r, 0L, 6), 0);
        Check.due("14 none below", s.feature(r, 0L, -1), 0);
        Check.due("14 far below", s.feature(r, 0L, INT_LOW), 0);
        Check.due("14 far above", s.feature(r, 0L, INT_HIGH), 0);
        int t = Make.thing(s, 1, -5, r);
        Check.due("14 of a thing", s.feature(t, 0L, 0), -5);
        Check.due("14 by a path", s.feature(t, 1L, 2), 9999);
        Check.due("14 by no path", s.feature(t, 2L, 0), 0);
        Check.due("14 of a variable", s.feature(v, 0L, 0), 0);
        Check.due("14 of a number", s.feature(s.number(1), 0L, 0), 0);
        Check.due("14 no such node", s.feature(99, 0L, 0), 0);
        Check.due("14 node below", s.feature(-1, 0L, 0), 0);
        s.tell(v, t);
        Check.due("14 of a determined one", s.feature(v, 0L, 0), -5);
        Check.due("14 round", s.feature(v, 0x010101L, 1), 3);
    }

    private static void promise15() {
        TreeStore s = new TreeStore();
        int a = s.variable();
        int b = s.variable();
        s.tell(a, b);
        int n = s.number(1);
        int r = Make.record(s, 1, 2, b, -4, n);
        int t = Make.thing(s, 1, 3, r);
        Check.due("15 the leader", s.part(r, 2), a);
        Check.due("15 by an atom", s.part(r, -4), n);
        Check.due("15 of a thing", s.part(t, 3), r);
        Check.due("15 none such", s.part(r, 1), NONE);
        Check.due("15 no feature", s.part(r, 0), NONE);
        Check.due("15 far below", s.part(r, INT_LOW), NONE);
        Check.due("15 of a variable", s.part(a, 2), NONE);
        Check.due("15 of a number", s.part(n, 2), NONE);
        Check.due("15 no such node", s.part(99, 2), NONE);
        Check.due("15 node below", s.part(-1, 2), NONE);
        s.tell(a, r);
        Check.due("15 of a determined one", s.part(b, -4), n);
        Check.due("15 round", s.part(b, 2), a);
    }

    private static void promise16() {
        TreeStore s = new TreeStore();
        int v = s.variable();
        int w = s.variable();
        int u = s.variable();
        s.tell(w, u);
        int t = Make.thing(s, 1, 2, u, -1, v);
        int r = Make.record(s, 1, 2, v);
        Check.due("16 no such node", s.set(99, 2, v), NONE);
        Check.due("16 no such part", s.set(t, 2, 99), NONE);
        Check.due("16 part below", s.set(t, 2, -1), NONE);
        Check.due("16 node below", s.set(-1, 2, v), NONE);
        Check.due("16 no thing", s.set(r, 2, w), NONE);
        Check.due("16 a variable", s.set(v, 2, w), NONE);
        Check.due("16 none such", s.set(t, 1, v), NONE);
        Check.due("16 no feature", s.set(t, 0, v), NONE);
        s.mark(t);
        Check.due("16 refused", s.set(t, 3, v), NONE);
        Check.due("16 refused leaves marks", s.count(5), 4);
        Check.due("16 the leader before", s.set(t, 2, r), w);
        Check.due("16 marks go", s.count(5), 0);
        Check.due("16 from now on", s.part(t, 2), r);
        Check.due("16 the other one", s.part(t, -1), v);
        Check.due("16 what was a part", s.look(u, 0L, 0), 0);
        s.tell(v, t);
        Check.due("16 a determined one", s.set(v, -1, v), v);
        Check.due("16 itself", s.look(t, 0x0202L, 3), v);
        Check.due("16 back", s.set(t, 2, u), r);
        Check.due("16 touched stays", s.touched(0), v);
        s.mark(u);
        Check.due("16 the same again", s.set(t, 2, w), w);
        Check.due("16 marks go though it is the same", s.count(5), 0);
    }

    private static void promise17() {
        TreeStore s = new TreeStore();
        int a = s.variable();
        int b = s.variable();
        int one = s.number(1);
        Check.due("17 variables", s.like(a, b), true);
        Check.due("17 itself", s.like(a, a), true);
        Check.due("17 a variable and a number", s.like(a, one), false);
        Check.due("17 a number and a variable", s.like(one, a), false);
        Check.due("17 numbers", s.like(one, s.number(1)), true);
        Check.due("17 other numbers", s.like(one, s.number(2)), false);
        Check.due("17 number and atom", s.like(one, s.atom(1)), false);
        Check.due("17 no such node", s.like(a, 99), false);
        Check.due("17 no such node first", s.like(-1, a), false);
        Check.due("17 no such nodes", s.like(99, 99), false);
        int ra = Make.record(s, 1, 1, a, 2, one);
        int rb = Make.record(s, 1, 1, b, 2, one);
        Check.due("17 records", s.like(ra, rb), true);
        Check.due("17 labels", s.like(ra, Make.record(s, 2, 1, b, 2, one)), false);
        Check.due("17 features", s.like(ra, Make.record(s, 1, 1, b, 3, one)), false);
        Check.due("17 fewer fields", s.like(ra, Make.record(s, 1, 1, b)), false);
        int t = Make.thing(s, 5, 1, a);
        Check.due("17 things", s.like(t, Make.thing(s, 5, 1, b)), true);
        Check.due("17 codes", s.like(t, Make.thing(s, 6, 1, b)), false);
        Check.due("17 features of things", s.like(t, Make.thing(s, 5, 2, b)), false);
        Check.due("17 parts of things", s.like(t, Make.thing(s, 5, 1, one)), false);
        Check.due("17 a thing and a record", s.like(t, Make.record(s, 5, 1, a)), false);
        Check.due("17 a variable and a thing", s.like(a, s.thing(0)), false);
        Check.due("17 a thing and a variable", s.like(s.thing(0), a), false);
        s.need(a);
        Check.due("17 needed and not", s.like(ra, rb), false);
        Check.due("17 not needed and needed", s.like(rb, ra), false);
        s.need(b);
        Check.due("17 needed both", s.like(ra, rb), true);
    }

    private static void promise17Given() {
        TreeStore s = new TreeStore();
        int a = s.variable();
        int b = s.variable();
        int ab = Make.record(s, 1, 1, a, 2, b);
        int ba = Make.record(s, 1, 1, b, 2, a);
        int aa = Make.record(s, 1, 1, a, 2, a);
        int bb = Make.record(s, 1, 1, b, 2, b);
        Check.due("17 crossed", s.like(ab, ba), true);
        Check.due("17 one to two", s.like(aa, ab), false);
        Check.due("17 two to one", s.like(ab, aa), false);
        Check.due("17 one to one", s.like(aa, bb), true);
        int t = s.thing(1);
        int u = s.thing(1);
        int tu = Make.record(s, 1, 1, t, 2, u);
        Check.due("17 things crossed", s.like(tu, Make.record(s, 1, 1, u, 2, t)), true);
        Check.due("17 one thing to two", s.like(Make.record(s, 1, 1, t, 2, t), tu), false);
        Check.due("17 two things to one", s.like(tu, Make.record(s, 1, 1, u, 2, u)), false);
        Check.due("17 things and variables", s.like(tu, ab), false);
        int n = s.number(3);
        int m = s.number(3);
        Check.due("17 numbers need no way", s.like(Make.record(s, 1, 1, n, 2, n), Make.record(s, 1, 1, n, 2, m)), true);
        int ra = Make.record(s, 2, 1, a);
        int ra2 = Make.record(s, 2, 1, a);
        int rb = Make.record(s, 2, 1, b);
        int shared = Make.record(s, 1, 1, ra, 2, ra);
        Check.due("17 records need no way", s.like(shared, Make.record(s, 1, 1, ra, 2, ra2)), true);
        Check.due("17 but what they lead to does", s.like(shared, Make.record(s, 1, 1, ra, 2, rb)), false);
        Check.due("17 and back", s.like(Make.record(s, 1, 1, ra, 2, rb), shared), false);
        s.tell(a, b);
        Check.due("17 the same count as one", s.like(ab, aa), true);
    }

    private static void promise17Rings() {
        TreeStore s = new TreeStore();
        int x = s.variable();
        int p = s.variable();
        s.tell(x, Make.record(s, 1, 1, x, 2, p));
        int y = s.variable();
        int q = s.variable();
        s.tell(y, Make.record(s, 1, 1, Make.record(s, 1, 1, y, 2, q), 2, q));
        Check.due("17 rings", s.like(x, y), true);
        Check.due("17 rings, the longer one first", s.like(y, x), true);
        int z = s.variable();
        s.tell(z, Make.record(s, 1, 1, Make.record(s, 1, 1, z, 2, p), 2, q));
        Check.due("17 rings with two variables", s.like(x, z), false);
        Check.due("17 and back", s.like(z, x), false);
        int t = Make.thing(s, 1, 1, x);
        int u = Make.thing(s, 1, 1, x);
        int w = Make.thing(s, 1, 1, x);
        s.set(t, 1, t);
        s.set(u, 1, w);
        s.set(w, 1, u);
        Check.due("17 a ring of one thing and of two", s.like(t, u), false);
        Check.due("17 a ring of two things and of one", s.like(u, t), false);
        Check.due("17 a ring of things, turned", s.like(u, w), true);
        Check.due("17 a ring of one thing", s.like(t, t), true);
    }

    private static void promise18() {
        TreeStore s = new TreeStore();
        int a = s.variable();
        int b = s.variable();
        int c = s.variable();
        s.tell(b, c);
        int r = Make.record(s, 1, 1, c);
        int t = Make.thing(s, 1, 1, r);
        int alone = s.number(1);
        Check.due("18 no such node", s.mark(99), NONE);
        Check.due("18 node below", s.mark(-1), NONE);
        Check.due("18 far off", s.mark(INT_LOW), NONE);
        Check.due("18 none yet", s.count(5), 0);
        Check.due("18 the leader", s.mark(c), b);
        Check.due("18 all that are the same", s.count(5), 2);
        Check.due("18 a thing", s.mark(t), t);
        Check.due("18 and what it leads to", s.count(5), 4);
        Check.due("18 again", s.mark(t), t);
        Check.due("18 once each", s.count(5), 4);
        Check.due("18 more", s.mark(alone), alone);
        Check.due("18 marks gather", s.count(5), 5);
        s.tell(a, t);
        Check.due("18 a determined one", s.mark(t), a);
        Check.due("18 all but one", s.count(5), 5);
        s.tell(b, a);
        Check.due("18 a ring", s.mark(r), r);
        Check.due("18 round", s.count(5), 5);
        Check.due("18 leader of many", s.look(c, 0L, 3), a);
    }

    private static void promise18Gone() {
        TreeStore s = new TreeStore();
        int v = s.variable();
        int t = Make.thing(s, 1, 1, v);
        for (int way = 0; way < 14; way++) {
            s.mark(v);
            Check.due("18 marked", s.count(5), 1);
            Check.due("18 marks behind way " + way, marksBehind(s, way, v, t), way < 7 ? 0 : 1);
        }
    }

    private static int marksBehind(TreeStore s, int way, int v, int t) {
        switch (way) {
            case 0: s.variable(); break;
            case 1: s.number(1); break;
            case 2: s.atom(1); break;
            case 3: s.push(1, v); s.record(1); break;
            case 4: s.thing(1); break;
            case 5: s.tell(v, v); break;
            case 6: s.set(t, 1, v); break;
            case 7: s.atom(-1); break;
            case 8: s.record(1); break;
            case 9: s.thing(-1); break;
            case 10: s.tell(t, v + 99); break;
            case 11: s.set(t, 2, v); break;
            case 12: s.push(2, v); break;
            default: s.ask(t, v); s.hangs(t, v, 0); s.like(t, v); s.look(t, 1L, 0); s.need(v); break;
        }
        return s.count(5);
    }

    private static void promise19() {
        TreeStore s = new TreeStore();
        int a = s.variable();
        int b = s.variable();
        int r = Make.record(s, 1, 1, b);
        int t = Make.thing(s, 2, 1, r, -1, b);
        s.need(b);
        s.push(1, a);
        s.mark(t);
        Check.due("19 how many went", s.sweep(), 1);
        counts("19 behind it:", s, 3, 3, 0, 1, 0, 0);
        Check.due("19 touched", s.touched(0), NONE);
        Check.due("19 what went", s.look(a, 0L, 0), NONE);
        Check.due("19 is no node", s.tell(a, b), false);
        Check.due("19 still needed", s.look(b, 0L, 4), 1);
        Check.due("19 parts", s.look(t, 0x0101L, 3), b);
        Check.due("19 features", s.feature(t, 0L, 1), -1);
        Check.due("19 nothing pushed", s.record(1), NONE);
        Check.due("19 the least number", s.variable(), a);
        Check.due("19 is new", s.look(a, 0L, 4), 0);
        Check.due("19 above all", s.variable(), 4);
        Check.due("19 unmarked, all go", s.sweep(), 5);
        counts("19 nothing left:", s, 0, 0, 0, 0, 0, 0);
    }

    private static void promise19Leaders() {
        TreeStore s = new TreeStore();
        int x = s.variable();
        int y = s.variable();
        int n = s.number(8);
        int r = Make.record(s, 3, 1, y, 2, x);
        int q = Make.record(s, 3, 1, n, 2, r);
        s.tell(r, x);
        s.tell(r, q);
        int v = s.variable();
        int w = s.variable();
        s.tell(v, w);
        int t = Make.thing(s, 4, 1, w, 2, q);
        int u = s.variable();
        s.tell(t, u);
        s.mark(u);
        Check.due("19 leaders stay", s.sweep(), 5);
        counts("19 of leaders:", s, 4, 4, 0, 1, 0, 0);
        Check.due("19 a leader takes the place", s.look(x, 0L, 0), 3);
        Check.due("19 its label", s.look(x, 0L, 1), 3);
        Check.due("19 its part", s.look(x, 1L, 3), y);
        Check.due("19 which is a number", s.look(y, 0L, 1), 8);
        Check.due("19 itself", s.look(x, 2L, 3), x);
        Check.due("19 a part that went", s.look(t, 1L, 3), v);
        Check.due("19 one that went", s.look(w, 0L, 0), NONE);
        Check.due("19 the thing", s.look(t, 2L, 3), x);
        Check.due("19 the numbers are free", s.number(1), n);
        Check.due("19 told still", s.tell(x, n), false);
        Check.due("19 and on", s.tell(v, n), true);
        Check.due("19 to what stayed", s.look(t, 1L, 1), 1);
        Check.due("19 the least", s.look(v, 0L, 3), n);
    }

    private static void promise19Twice() {
        TreeStore s = new TreeStore();
        int low = s.variable();
        int a = s.number(11);
        int b = s.number(22);
        int r = Make.record(s, 1, 1, a, 2, b);
        s.mark(r);
        Check.due("19 a number gets free", s.sweep(), 1);
        int q = Make.record(s, 2, 3, b, 4, b, 5, r);
        Check.due("19 for a later record", q, low);
        s.mark(q);
        Check.due("19 all stay", s.sweep(), 0);
        Check.due("19 the first's first feature", s.feature(r, 0L, 0), 1);
        Check.due("19 the first's last feature", s.feature(r, 0L, 1), 2);
        Check.due("19 the first's first part", s.look(r, 1L, 1), 11);
        Check.due("19 the first's last part", s.look(r, 2L, 1), 22);
        Check.due("19 the later's first part", s.part(q, 3), b);
        Check.due("19 the later's last part", s.part(q, 5), r);
        s.mark(r);
        Check.due("19 the later goes", s.sweep(), 1);
        Check.due("19 the first stays", s.look(r, 2L, 1), 22);
        Check.due("19 its fields", s.count(1), 2);
    }

    private static void promise20() {
        TreeStore s = new TreeStore();
        int a = s.variable();
        Make.record(s, 1, 1, a);
        s.need(a);
        s.push(2, a);
        s.mark(a);
        Check.due("20 how many", s.clear(), 2);
        counts("20 behind it:", s, 0, 0, 0, 0, 0, 0);
        Check.due("20 touched", s.touched(0), NONE);
        Check.due("20 no node", s.look(a, 0L, 0), NONE);
        Check.due("20 none left", s.clear(), 0);
        Check.due("20 from 0 on", s.variable(), 0);
        Check.due("20 not needed", s.look(0, 0L, 4), 0);
        Check.due("20 nothing pushed", s.record(0), NONE);
        Check.due("20 pushed anew", s.push(2, 0), 1);
    }

    private static void promise21() {
        TreeStore s = new TreeStore();
        int a = s.variable();
        int b = s.variable();
        int c = s.variable();
        int r = Make.record(s, 1, 1, a, 2, b);
        int q = Make.record(s, 1, 1, b, 2, c);
        int t = Make.thing(s, 1, 1, c);
        s.push(1, a);
        s.push(2, a);
        counts("21 before:", s, 6, 5, 2, 3, 0, 0);
        s.tell(r, q);
        counts("21 told:", s, 6, 5, 2, 1, 3, 0);
        s.mark(q);
        counts("21 marked:", s, 6, 5, 2, 1, 3, 5);
        s.need(c);
        counts("21 needed:", s, 6, 5, 2, 1, 1, 5);
        s.mark(t);
        s.sweep();
        counts("21 swept:", s, 3, 3, 0, 1, 0, 0);
        Check.due("21 another what", s.count(6), NONE);
        Check.due("21 below", s.count(-1), NONE);
        Check.due("21 far below", s.count(INT_LOW), NONE);
        Check.due("21 far above", s.count(INT_HIGH), NONE);
    }
}
