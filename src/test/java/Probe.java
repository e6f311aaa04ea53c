import java.util.ArrayList;
import java.util.Arrays;
import java.util.List;
import java.util.function.Supplier;

/** Rows of calls that between them ask for all that an object holds; some of them change it as they go on. */
final class Probe {
    private static final List<List<Call>> ROWS = List.of(told(), land(), versions(), ages(), drawings(), stories(), taken(), read(), added());

    private Probe() {
    }

    /** What all rows answer, each on an object of its own that these calls have led to. */
    static int[][] answers(List<Call> ahead) {
        return answers(HillLand::new, ahead);
    }

    /** The same, of another that has the calls of the face. */
    static int[][] answers(Supplier<Object> maker, List<Call> ahead) {
        int[][] answers = new int[ROWS.size()][];
        for (int row = 0; row < answers.length; row++) {
            Object x = maker.get();
            for (Call call : ahead) call.on(x);
            answers[row] = ROWS.get(row).stream().mapToInt(call -> call.on(x)).toArray();
        }
        return answers;
    }

    static void same(String when, int[][] got, int[][] want) {
        for (int row = 0; row < got.length; row++) {
            if (Arrays.equals(got[row], want[row])) {
                Due.is(when, 0, 0);
                continue;
            }
            int i = Arrays.mismatch(got[row], want[row]);
            Due.is(ROWS.get(row).get(i) + " " + when, got[row][i], want[row][i]);
        }
    }

    private static void add(List<Call> calls, String name, long... numbers) {
        calls.add(new Call(name, numbers));
    }

    private static List<Call> told() {
        List<Call> calls = new ArrayList<>();
        for (int what = 0; what <= 8; what++) add(calls, "count", what);
        for (int i = 0; i <= 16; i++) {
            for (int what = 0; what <= 6; what++) add(calls, "told", i, what);
        }
        for (int i = 0; i <= 30; i++) add(calls, "met", i);
        for (int i = 0; i <= 16; i++) add(calls, "unmet", -1, i);
        for (int bed = 0; bed < 15; bed++) add(calls, "youth", bed);
        add(calls, "broken");
        add(calls, "fault");
        return calls;
    }

    private static List<Call> land() {
        List<Call> calls = new ArrayList<>();
        for (int n = 0; n < 64; n++) {
            add(calls, "skin", n % 8, n / 8, 0);
            add(calls, "at", n % 8, n / 8, 1);
            add(calls, "top", n % 16, n % 8, n / 8, n % 2);
        }
        for (int bed = 0; bed < 16; bed++) {
            for (int what = 0; what <= 2; what++) add(calls, "amount", bed, what);
        }
        for (int k = 0; k <= 16; k++) add(calls, "was", k, 3, 3, 0);
        return calls;
    }

    private static List<Call> versions() {
        List<Call> calls = new ArrayList<>();
        for (int v = 0; v < 4; v++) {
            for (int what = 0; what <= 3; what++) add(calls, "differ", v, what);
        }
        for (int v = 0; v < 4; v++) {
            add(calls, "back", v);
            for (int i = 0; i < 16; i++) add(calls, "told", i, 6);
            for (int i = 0; i < 16; i++) add(calls, "told", i, 1);
            add(calls, "amount", 2, 2);
            add(calls, "count", 8);
        }
        return calls;
    }

    private static List<Call> ages() {
        List<Call> calls = new ArrayList<>();
        for (int n = 2; n <= 8; n++) {
            for (int i = -1; i < n; i++) add(calls, "row", n, i);
        }
        for (int a = 0; a < 8; a++) add(calls, "sure", 8, a, (a + 3) % 8);
        add(calls, "sure", 4, 0, 3);
        add(calls, "clear");
        for (int a = 7; a >= 0; a--) {
            add(calls, "event", 0, a, 1, 0, 0, 0);
            add(calls, "broken");
        }
        return calls;
    }

    private static List<Call> drawings() {
        List<Call> calls = new ArrayList<>();
        for (int i = -1; i < 8; i++) {
            add(calls, "draw", 2, 0, 3, -1, i);
            add(calls, "draw", 2, 1, 4, -1, i);
            add(calls, "draw", 2, 1, 1, -1, i);
        }
        for (int k : new int[] {0, 2, 3, 6, 29, 30}) add(calls, "draw", 2, 0, 3, k, -1);
        for (int i = 0; i <= 30; i++) add(calls, "forget");
        add(calls, "draw", 2, 0, 3, -1, 0);
        return calls;
    }

    private static List<Call> stories() {
        List<Call> calls = new ArrayList<>();
        for (int k : new int[] {-1, 30, 29, 6, 1, 0}) add(calls, "stories", k);
        for (int i = 0; i <= 65; i += 13) {
            for (int j = -1; j <= 3; j++) add(calls, "story", 0, i, j);
        }
        for (int k = 0; k <= 1; k++) {
            for (int what = 0; what <= 2; what++) add(calls, "next", k, what);
        }
        add(calls, "never");
        add(calls, "stories", 0);
        return calls;
    }

    private static List<Call> taken() {
        List<Call> calls = new ArrayList<>();
        add(calls, "take", 0, 15);
        for (int i = 0; i < 16; i++) {
            for (int what = 0; what <= 6; what++) add(calls, "told", i, what);
        }
        for (int i = 0; i < 16; i++) add(calls, "swap", i);
        for (int i = 0; i <= 16; i++) {
            add(calls, "undo");
            add(calls, "skin", 5, 6, 0);
        }
        return calls;
    }

    private static List<Call> read() {
        List<Call> calls = new ArrayList<>();
        add(calls, "fault");
        add(calls, "read");
        add(calls, "fault");
        add(calls, "count", 6);
        for (int i = 0; i < 16; i++) {
            for (int what = 0; what <= 6; what++) add(calls, "told", i, what);
        }
        add(calls, "read");
        add(calls, "count", 0);
        return calls;
    }

    /** One more of each, as long as there is room for it. */
    private static List<Call> added() {
        List<Call> calls = new ArrayList<>();
        add(calls, "event", 0, 9, 2, 0, 0, 0);
        add(calls, "sight", 0, 4, 4, 9, 0, 0);
        add(calls, "claim", 5, 4, 3);
        add(calls, "maybe", 1, 1, 1, 0, 0, 0);
        add(calls, "feed", 8, 0x6c617920322032L << 8 | ';');
        add(calls, "keep", 3);
        for (int what = 0; what <= 8; what++) add(calls, "count", what);
        for (int i = 0; i < 16; i++) add(calls, "loose", i, 0);
        add(calls, "amount", 9, 1);
        add(calls, "differ", 3, 0);
        add(calls, "back", 3);
        add(calls, "skin", 4, 4, 1);
        return calls;
    }
}
