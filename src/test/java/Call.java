/** One call with its arguments, which can be made on a TreeStore and on a Model. */
record Call(String name, int a, int b, int c, long path) {
    static Call of(String name, int... arguments) {
        int[] all = java.util.Arrays.copyOf(arguments, 3);
        return new Call(name, all[0], all[1], all[2], 0L);
    }

    /** look or feature: x, a path, and what or i. */
    static Call along(String name, int x, long path, int last) {
        return new Call(name, x, last, 0, path);
    }

    long on(TreeStore s) {
        switch (name) {
            case "variable": return s.variable();
            case "number": return s.number(a);
            case "atom": return s.atom(a);
            case "push": return s.push(a, b);
            case "record": return s.record(a);
            case "thing": return s.thing(a);
            case "tell": return s.tell(a, b) ? 1L : 0L;
            case "ask": return s.ask(a, b);
            case "hangs": return s.hangs(a, b, c);
            case "need": return s.need(a) ? 1L : 0L;
            case "touched": return s.touched(a);
            case "look": return s.look(a, path, b);
            case "feature": return s.feature(a, path, b);
            case "part": return s.part(a, b);
            case "set": return s.set(a, b, c);
            case "like": return s.like(a, b) ? 1L : 0L;
            case "mark": return s.mark(a);
            case "sweep": return s.sweep();
            case "clear": return s.clear();
            case "count": return s.count(a);
            default: throw new IllegalArgumentException(name);
        }
    }

    long on(Model m) {
        switch (name) {
            case "variable": return m.variable();
            case "number": return m.number(a);
            case "atom": return m.atom(a);
            case "push": return m.push(a, b);
            case "record": return m.record(a);
            case "thing": return m.thing(a);
            case "tell": return m.tell(a, b) ? 1L : 0L;
            case "ask": return m.ask(a, b);
            case "hangs": return m.hangs(a, b, c);
            case "need": return m.need(a) ? 1L : 0L;
            case "touched": return m.touched(a);
            case "look": return m.look(a, path, b);
            case "feature": return m.feature(a, path, b);
            case "part": return m.part(a, b);
            case "set": return m.set(a, b, c);
            case "like": return m.like(a, b) ? 1L : 0L;
            case "mark": return m.mark(a);
            case "sweep": return m.sweep();
            case "clear": return m.clear();
            case "count": return m.count(a);
            default: throw new IllegalArgumentException(name);
        }
    }
}
