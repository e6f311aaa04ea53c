import java.nio.charset.StandardCharsets;

/** What a test says of each answer; the process ends with 1 if one was not as due. */
final class Due {
    static final int NONE = -1, UNKNOWN = -100001, OUTSIDE = -100002, NOT = -100003, FULL = -100004, LARGE = -100005;
    private static int answers = 0, wrong = 0;

    private Due() {
    }

    static void is(String call, long got, long want) {
        answers++;
        if (got == want) return;
        wrong++;
        System.out.println(call + " answered " + got + ", due is " + want);
    }

    /** Feeds a text; each of its signs is one byte. */
    static void feed(HillLand land, String text) {
        byte[] bytes = text.getBytes(StandardCharsets.ISO_8859_1);
        for (int i = 0; i < bytes.length; i += 8) {
            int n = Math.min(8, bytes.length - i);
            long packed = 0;
            for (int j = 0; j < n; j++) packed = packed << 8 | bytes[i + j] & 255;
            land.feed(n, packed);
        }
    }

    /** Feeds and reads a text: what read() and fault() answer. */
    static void reads(String text, int answer, int fault) {
        HillLand land = new HillLand();
        feed(land, text);
        is("read of '" + text + "'", land.read(), answer);
        is("fault of '" + text + "'", land.fault(), fault);
        is("text left of '" + text + "'", land.count(6), 0);
        is("events of '" + text + "'", land.count(0), Math.max(0, answer));
    }

    static void end() {
        System.out.println(wrong == 0 ? answers + " answers are as due" : wrong + " of " + answers + " answers are not as due");
        if (wrong != 0) System.exit(1);
    }
}
