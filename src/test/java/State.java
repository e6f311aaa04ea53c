import java.nio.charset.StandardCharsets;
import java.util.ArrayList;
import java.util.List;

/** Lands to try calls on, each by the calls that lead to it: with nothing, with some of all, next to full, and full. */
enum State {
    NEW, SOME, NEARLY, FULL;

    private static final String[] LAYERS = {"event 0 2 3 0 0 0", "event 1 4 0 0 0 0", "event 0 1 2 0 0 0", "event 3 0 4 -3 1 0",
        "event 5 7 1 2 3 1", "event 2 1 3 4 1 0", "event 4 12 -1 2 0 0", "event 0 0 1 0 0 0"};
    private static final String[] SIGHTS = {"sight 0 0 0 0 0 0", "sight 1 3 3 15 -9 0", "sight 2 4 3 2 -5 12", "sight 3 2 2 1 0 1",
        "sight 4 5 5 1 2 0", "sight 2 1 3 2 -3 9", "sight 0 7 7 1 0 0"};
    private static final String[] MIGHTS = {"maybe 0 4 2 0 0 0", "maybe 4 9 1 0 0 0", "maybe 3 1 3 5 0 0", "maybe 1 0 -3 0 0 0"};

    List<Call> calls() {
        List<String> calls = new ArrayList<>();
        switch (this) {
            case SOME: some(calls); break;
            case NEARLY: much(calls, 12, 29, 23, 3, "lay 6 1;" + " ".repeat(281) + "lay"); break;
            case FULL: much(calls, 16, 30, 24, 4, "lay 1 1;".repeat(16) + " ".repeat(172)); break;
            default: break;
        }
        return Call.all(calls);
    }

    Object on(Object land) {
        for (Call call : calls()) call.on(land);
        return land;
    }

    private static void some(List<String> calls) {
        for (int i = 0; i < 3; i++) calls.add(LAYERS[i]);
        calls.add("keep 0");
        calls.add(LAYERS[3]);
        calls.add("loose 0 1");
        calls.add("loose 2 1");
        calls.add("keep 2");
        calls.add(LAYERS[4]);
        for (int i = 0; i < 6; i++) calls.add(SIGHTS[i]);
        for (int i = 0; i < 5; i++) calls.add(claim(i));
        for (int i = 0; i < 3; i++) calls.add(MIGHTS[i]);
        feed(calls, "lay 3 2;cut 1 0 0;tilt 9");
        calls.add("read");
        feed(calls, "lay 3 2;cut 1 0 0;");
    }

    private static void much(List<String> calls, int events, int sights, int claims, int versions, String text) {
        for (int i = 0; i < events; i++) {
            calls.add(LAYERS[i % 8]);
            if (i < versions) calls.add("keep " + i);
        }
        for (int i = 0; i < (events == 16 ? 5 : 4); i++) calls.add("loose " + 2 * i + " 1");
        for (int i = 0; i < sights; i++) calls.add(SIGHTS[i % 7]);
        for (int i = 0; i < claims; i++) calls.add(claim(i));
        for (String might : MIGHTS) calls.add(might);
        feed(calls, text);
    }

    private static String claim(int i) {
        return "claim " + i % 8 + " " + (i + 1 + i % 3) % 8 + " " + (1 + 7 * i % 99);
    }

    static void feed(List<String> calls, String text) {
        byte[] bytes = text.getBytes(StandardCharsets.ISO_8859_1);
        for (int i = 0; i < bytes.length; i += 8) {
            int n = Math.min(8, bytes.length - i);
            long packed = 0;
            for (int j = 0; j < n; j++) packed = packed << 8 | bytes[i + j] & 255;
            calls.add("feed " + n + " " + packed);
        }
    }
}
