/** Stores and nodes that several tests begin with; fields are written as feature, part, feature, part, .. */
final class Make {
    private Make() {
    }

    static int record(TreeStore s, int label, int... fields) {
        pushAll(s, fields);
        return s.record(label);
    }

    static int thing(TreeStore s, int code, int... fields) {
        pushAll(s, fields);
        return s.thing(code);
    }

    static void pushAll(TreeStore s, int... fields) {
        for (int i = 0; i < fields.length; i += 2) {
            s.push(fields[i], fields[i + 1]);
        }
    }

    /** The features first, first + 1, .. are pushed, each with the same part. */
    static void pushMany(TreeStore s, int first, int howMany, int node) {
        for (int i = 0; i < howMany; i++) {
            s.push(first + i, node);
        }
    }

    /** The variables 0, 2 and 3: the number 1 had a node, which went. */
    static TreeStore withHole() {
        TreeStore s = new TreeStore();
        for (int i = 0; i < 4; i++) {
            s.variable();
        }
        s.mark(0);
        s.mark(2);
        s.mark(3);
        s.sweep();
        return s;
    }

    /** Numbers that no node of withHole() has. */
    static int[] noNodesOfWithHole() {
        return new int[] {1, 4, 5, 15, 16, 17, 255, 256, 32767, 32768, 65536, -1, -2, -32768, Integer.MIN_VALUE,
            Integer.MIN_VALUE + 1, Integer.MAX_VALUE - 1, Integer.MAX_VALUE};
    }

    /** All that can be asked of a store whose nodes have numbers below 40, to see whether a call changed it. */
    static String state(TreeStore s) {
        StringBuilder text = new StringBuilder();
        for (int what = 0; what < 6; what++) {
            text.append(s.count(what)).append(' ');
        }
        for (int i = 0; i < s.count(4); i++) {
            text.append("touched ").append(s.touched(i)).append(' ');
        }
        for (int n = 0; n < 40; n++) {
            appendNode(text, s, n);
        }
        return text.toString();
    }

    private static void appendNode(StringBuilder text, TreeStore s, int n) {
        if (s.look(n, 0L, 0) == TreeStore.NONE) {
            return;
        }
        text.append("node ").append(n).append(": ");
        for (int what = 0; what < 5; what++) {
            text.append(s.look(n, 0L, what)).append(' ');
        }
        for (int i = 0; i < s.look(n, 0L, 2); i++) {
            text.append(s.feature(n, 0L, i)).append("=>").append(s.look(n, i + 1L, 3)).append(' ');
        }
    }
}
