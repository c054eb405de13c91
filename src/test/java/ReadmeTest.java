import java.io.IOException;
import java.lang.reflect.Method;
import java.lang.reflect.Modifier;
import java.nio.file.Files;
import java.nio.file.Path;
import java.util.List;

/** README.md: its example answers what it says, and it tells of every call and of how to run the tests. */
public final class ReadmeTest {
    private static List<String> readme;
    /** How many lines of the example have been made, to see that none is left out. */
    private static int made = 0;

    public static void main(String[] args) throws IOException {
        readme = Files.readAllLines(Path.of("README.md"));
        example();
        Check.due("lines with an answer in README.md", answeredLines(), made);
        everyCall();
        Check.due("README.md has the command that runs the tests", readme.contains(".ci/run"), true);
        Check.finish();
    }

    private static void example() {
        TreeStore store = new TreeStore();
        int x = line("int x = store.variable();", store.variable(), 0);
        int y = line("int y = store.variable();", store.variable(), 1);
        line("store.push(1, x);", store.push(1, x), 1);
        int r = line("int r = store.record(5);", store.record(5), 2);
        int n = line("int n = store.number(7);", store.number(7), 3);
        line("store.tell(y, r);", store.tell(y, r), true);
        line("store.touched(0);", store.touched(0), 1);
        line("store.ask(x, n);", store.ask(x, n), -1);
        line("store.hangs(x, n, 0);", store.hangs(x, n, 0), 0);
        line("store.tell(x, n);", store.tell(x, n), true);
        line("store.ask(x, n);", store.ask(x, n), 1);
        line("store.look(y, 1L, 1);", store.look(y, 1L, 1), 7);
        line("store.tell(y, x);", store.tell(y, x), false);
        line("store.mark(y);", store.mark(y), 1);
        line("store.sweep();", store.sweep(), 2);
        int ring = line("int ring = store.variable();", store.variable(), 2);
        line("store.push(1, ring);", store.push(1, ring), 1);
        int turn = line("int turn = store.record(5);", store.record(5), 3);
        line("store.tell(ring, turn);", store.tell(ring, turn), true);
        line("store.look(ring, 0x010101L, 0);", store.look(ring, 0x010101L, 0), 3);
        line("store.clear();", store.clear(), 4);
    }

    private static int line(String code, int got, int want) {
        Check.due(code, got, want);
        inReadme(code, String.valueOf(want));
        return got;
    }

    private static void line(String code, boolean got, boolean want) {
        Check.due(code, got, want);
        inReadme(code, String.valueOf(want));
    }

    private static void inReadme(String code, String answer) {
        made++;
        String pattern = "\\Q" + code + "\\E +// " + answer + "(:.*)?";
        Check.due("README.md says " + code + " // " + answer, readme.stream().anyMatch(l -> l.matches(pattern)), true);
    }

    private static long answeredLines() {
        return readme.stream().filter(l -> l.contains("; ") && l.contains(" // ")).count();
    }

    private static void everyCall() {
        for (Method method : TreeStore.class.getDeclaredMethods()) {
            if (Modifier.isPublic(method.getModifiers())) {
                Check.due("README.md has a row for " + method, hasRow(method), true);
            }
        }
    }

    private static boolean hasRow(Method method) {
        int parameters = method.getParameterCount();
        String inside = parameters == 0 ? "" : "\\w+" + ", \\w+".repeat(parameters - 1);
        String pattern = "\\| `" + method.getName() + "\\(" + inside + "\\)` \\|.*";
        return readme.stream().anyMatch(l -> l.matches(pattern));
    }
}
