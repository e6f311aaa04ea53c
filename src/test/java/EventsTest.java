/** Promises 1 to 8: a new object, and its events. */
public final class EventsTest {
    private static final int LEAST = Integer.MIN_VALUE, MOST = Integer.MAX_VALUE;

    public static void main(String[] args) {
        promise1NewObject();
        promise1Constants();
        promise2EventNumbers();
        promise2Bounds();
        promise2Full();
        promise3Undo();
        promise4Clear();
        promise5Told();
        promise6Loose();
        promise7Swap();
        promise8Count();
        promise8Crossings();
        Due.end();
    }

    private static void promise1NewObject() {
        HillLand x = new HillLand();
        for (int what = 0; what <= 8; what++) Due.is("count(" + what + ") of a new land", x.count(what), 0);
        for (int n = 0; n < 64; n++) {
            Due.is("skin of column " + n, x.skin(n % 8, n / 8, 0), -1);
            Due.is("bed on column " + n, x.skin(n % 8, n / 8, 1), 15);
        }
        Due.is("amount(15, 0)", x.amount(15, 0), 64 * 40);
        Due.is("amount(15, 1)", x.amount(15, 1), 64 * 40);
        Due.is("amount(0, 0)", x.amount(0, 0), 0);
        Due.is("fault()", x.fault(), Due.NONE);
        Due.is("read()", x.read(), 0);
        Due.is("broken()", x.broken(), 0);
        Due.is("stories(-1)", x.stories(-1), 1);
        Due.is("row(8, 7)", x.row(8, 7), 7);
        HillLand other = new HillLand();
        other.event(0, 1, 1, 0, 0, 0);
        Due.is("events of another object", x.count(0), 0);
        Due.is("land of another object", x.at(0, 0, 0), Due.NONE);
    }

    private static void promise1Constants() {
        Due.is("NONE", HillLand.NONE, -1);
        Due.is("UNKNOWN", HillLand.UNKNOWN, -100001);
        Due.is("OUTSIDE", HillLand.OUTSIDE, -100002);
        Due.is("NOT", HillLand.NOT, -100003);
        Due.is("FULL", HillLand.FULL, -100004);
        Due.is("LARGE", HillLand.LARGE, -100005);
    }

    private static void promise2EventNumbers() {
        HillLand x = new HillLand();
        int[][] told = {{0, 14, 8}, {1, -8, 8}, {2, 1, -8, 8, 7}, {3, 1, 7, -16, 2}, {4, -30, 8, -8}, {5, 14, 1, 7, 7, -40}};
        for (int i = 0; i < told.length; i++) {
            int[] n = java.util.Arrays.copyOf(told[i], 6);
            for (int j = told[i].length; j < 6; j++) n[j] = j % 2 == 0 ? LEAST : MOST;
            Due.is("event of kind " + i, x.event(n[0], n[1], n[2], n[3], n[4], n[5]), i);
            for (int what = 0; what <= 5; what++) {
                Due.is("told(" + i + ", " + what + ")", x.told(i, what), what < told[i].length ? told[i][what] : 0);
            }
            Due.is("told(" + i + ", 6)", x.told(i, 6), 0);
        }
    }

    /** Each number just within and just beyond its bounds, the others within theirs. */
    private static void promise2Bounds() {
        int[][] good = {{3, 4, 0, 0, 0}, {1, 1, 0, 0, 0}, {0, 1, 4, 1, 0}, {0, 3, 1, 0, 0}, {2, 1, 1, 0, 0}, {3, 0, 0, 7, 0}};
        int[][][] bounds = {
            {{0, 14}, {1, 8}},
            {{-8, 8}, {-8, 8}},
            {{0, 1}, {-8, 8}, {2, 8}, {0, 7}},
            {{0, 1}, {0, 7}, {-16, 16}, {-2, 2}},
            {{-30, 39}, {-8, 8}, {-8, 8}},
            {{0, 14}, {0, 1}, {0, 7}, {0, 7}, {-40, 39}}};
        for (int kind = 0; kind < 6; kind++) {
            for (int place = 0; place < bounds[kind].length; place++) {
                int least = bounds[kind][place][0], most = bounds[kind][place][1];
                bound(kind, good[kind], place, least, true);
                bound(kind, good[kind], place, most, true);
                bound(kind, good[kind], place, least - 1, false);
                bound(kind, good[kind], place, most + 1, false);
                bound(kind, good[kind], place, LEAST, false);
                bound(kind, good[kind], place, MOST, false);
            }
        }
        int[] none = {0, 1, 2, 3, 4};
        bound(-1, none, 0, 0, false);
        bound(6, none, 0, 0, false);
        bound(LEAST, none, 0, 0, false);
        bound(MOST, none, 0, 0, false);
        bound(5, new int[] {3, 0, 4, 3, 0}, 0, 3, false);
        bound(5, new int[] {3, 0, 4, 4, 0}, 0, 3, true);
    }

    private static void bound(int kind, int[] good, int place, int value, boolean isIn) {
        int[] n = good.clone();
        n[place] = value;
        HillLand x = new HillLand();
        String call = "event(" + kind + ") with " + value + " as number " + place;
        Due.is(call, x.event(kind, n[0], n[1], n[2], n[3], n[4]), isIn ? 0 : Due.OUTSIDE);
        Due.is("events after " + call, x.count(0), isIn ? 1 : 0);
        Due.is("maybe " + call, x.maybe(kind, n[0], n[1], n[2], n[3], n[4]), isIn ? 0 : Due.OUTSIDE);
        Due.is("maybes after " + call, x.count(4), isIn ? 1 : 0);
    }

    private static void promise2Full() {
        HillLand x = new HillLand();
        for (int i = 0; i < 16; i++) Due.is("event " + i, x.event(0, i % 15, 1, 0, 0, 0), i);
        Due.is("a seventeenth", x.event(0, 0, 1, 0, 0, 0), Due.FULL);
        Due.is("a wrong seventeenth", x.event(0, 15, 1, 0, 0, 0), Due.OUTSIDE);
        Due.is("count(0)", x.count(0), 16);
        Due.is("skin", x.skin(4, 4, 0), 15);
        Due.is("skin's bed", x.skin(4, 4, 1), 0);
        Due.is("undo()", x.undo(), 15);
        Due.is("a sixteenth", x.event(1, 0, 0, 0, 0, 0), 15);
    }

    private static void promise3Undo() {
        HillLand x = new HillLand();
        Due.is("undo() of none", x.undo(), Due.NOT);
        x.event(0, 1, 2, 0, 0, 0);
        x.event(4, 1, 0, 0, 0, 0);
        x.loose(1, true);
        Due.is("skin", x.skin(0, 0, 0), 0);
        Due.is("undo()", x.undo(), 1);
        Due.is("skin of what is left", x.skin(0, 0, 0), 1);
        Due.is("told(1, 0)", x.told(1, 0), Due.UNKNOWN);
        x.event(1, 0, 0, 0, 0, 0);
        Due.is("a new event is not loose", x.told(1, 6), 0);
        Due.is("undo()", x.undo(), 1);
        Due.is("undo()", x.undo(), 0);
        Due.is("undo() of none left", x.undo(), Due.NOT);
        Due.is("skin at first", x.skin(0, 0, 0), -1);
    }

    private static void promise4Clear() {
        HillLand x = new HillLand();
        Due.is("clear() of none", x.clear(), 0);
        x.event(0, 1, 2, 0, 0, 0);
        x.event(0, 2, 2, 0, 0, 0);
        x.sight(0, 0, 0, 1, 0, 0);
        x.maybe(0, 3, 1, 0, 0, 0);
        x.claim(0, 1, 2);
        x.keep(2);
        x.feed(3, 7);
        Due.is("clear()", x.clear(), 2);
        Due.is("clear() again", x.clear(), 0);
        int[] left = {0, 0, 1, 1, 1, 1, 3, 0, 1};
        for (int what = 0; what <= 8; what++) Due.is("count(" + what + ")", x.count(what), left[what]);
        Due.is("skin", x.skin(7, 7, 0), -1);
    }

    private static void promise5Told() {
        HillLand x = new HillLand();
        Due.is("told(0, 0) of none", x.told(0, 0), Due.UNKNOWN);
        x.event(5, 3, 1, 2, 4, -7);
        int[] told = {5, 3, 1, 2, 4, -7, 0};
        for (int what = 0; what <= 6; what++) Due.is("told(0, " + what + ")", x.told(0, what), told[what]);
        x.loose(0, true);
        Due.is("told(0, 6)", x.told(0, 6), 1);
        Due.is("told(0, 7)", x.told(0, 7), Due.OUTSIDE);
        Due.is("told(0, -1)", x.told(0, -1), Due.OUTSIDE);
        Due.is("told(0, least)", x.told(0, LEAST), Due.OUTSIDE);
        Due.is("told(1, 0)", x.told(1, 0), Due.UNKNOWN);
        Due.is("told(-1, 0)", x.told(-1, 0), Due.UNKNOWN);
        Due.is("told(1, 7)", x.told(1, 7), Due.UNKNOWN);
        Due.is("told(most, 7)", x.told(MOST, 7), Due.UNKNOWN);
    }

    private static void promise6Loose() {
        HillLand x = new HillLand();
        Due.is("loose(0) of none", x.loose(0, true), Due.UNKNOWN);
        for (int i = 0; i < 6; i++) x.event(0, i, 1, 0, 0, 0);
        Due.is("loose(0, false)", x.loose(0, false), 0);
        Due.is("loose(0, true)", x.loose(0, true), 0);
        Due.is("loose(0, true) again", x.loose(0, true), 1);
        Due.is("loose(0, false) then", x.loose(0, false), 1);
        Due.is("loose(6, true)", x.loose(6, true), Due.UNKNOWN);
        Due.is("loose(-1, true)", x.loose(-1, true), Due.UNKNOWN);
        for (int i = 0; i < 6; i++) x.loose(i, true);
        Due.is("six are loose", x.count(1), 6);
        x.undo();
        Due.is("five are loose", x.count(1), 5);
        x.clear();
        Due.is("none is loose", x.count(1), 0);
    }

    private static void promise7Swap() {
        HillLand x = new HillLand();
        x.event(0, 1, 2, 0, 0, 0);
        Due.is("swap(0) of one", x.swap(0), Due.UNKNOWN);
        x.event(5, 2, 0, 3, 4, 0);
        x.event(0, 3, 1, 0, 0, 0);
        x.loose(0, true);
        Due.is("swap(2) of three", x.swap(2), Due.UNKNOWN);
        Due.is("swap(-1)", x.swap(-1), Due.UNKNOWN);
        Due.is("swap(most)", x.swap(MOST), Due.UNKNOWN);
        Due.is("swap(least)", x.swap(LEAST), Due.UNKNOWN);
        Due.is("bed under the dyke's top", x.at(3, 0, 0), 2);
        Due.is("swap(0): unlike in the dyke's columns", x.swap(0), 16);
        Due.is("bed where the dyke did not come", x.at(3, 0, 0), 1);
        Due.is("told(0, 0)", x.told(0, 0), 5);
        Due.is("told(1, 0)", x.told(1, 0), 0);
        Due.is("told(0, 5)", x.told(0, 5), 0);
        Due.is("looseness goes along", x.told(1, 6), 1);
        Due.is("looseness goes away", x.told(0, 6), 0);
        Due.is("swap(1): all unlike", x.swap(1), 64);
        Due.is("told(2, 6)", x.told(2, 6), 1);
        Due.is("swap(0): unlike in the dyke's columns again", x.swap(0), 16);
        x.clear();
        x.event(1, 4, 0, 0, 0, 0);
        x.event(1, 4, 0, 0, 0, 0);
        Due.is("swap of like events", x.swap(0), 0);
    }

    private static void promise8Count() {
        HillLand x = new HillLand();
        Due.is("count(-1)", x.count(-1), Due.OUTSIDE);
        Due.is("count(9)", x.count(9), Due.OUTSIDE);
        Due.is("count(least)", x.count(LEAST), Due.OUTSIDE);
        for (int i = 0; i < 3; i++) x.event(0, i, 1, 0, 0, 0);
        x.loose(1, true);
        x.sight(0, 0, 0, 2, 0, 0);
        x.sight(0, 0, 0, 1, 0, 0);
        for (int i = 0; i < 5; i++) x.claim(1, 2, 3);
        for (int i = 0; i < 4; i++) x.maybe(1, 0, 0, 0, 0, 0);
        x.keep(3);
        x.keep(0);
        x.keep(3);
        x.feed(7, 0);
        int[] due = {3, 1, 2, 5, 4, 2, 7, 0, 1};
        for (int what = 0; what <= 8; what++) Due.is("count(" + what + ")", x.count(what), due[what]);
    }

    private static void promise8Crossings() {
        HillLand x = new HillLand();
        x.event(0, 1, 2, 0, 0, 0);
        x.event(0, 2, 2, 0, 0, 0);
        Due.is("beds as they were laid", x.count(7), 0);
        x.event(5, 3, 0, 0, 0, 0);
        Due.is("a dyke under older beds in 8 columns", x.count(7), 8);
        x.event(0, 1, 1, 0, 0, 0);
        Due.is("a bed laid again is as old as at first", x.count(7), 8 + 64);
        x.undo();
        x.event(5, 3, 0, 0, 0, -10);
        Due.is("the same bed once more is no younger", x.count(7), 8);
        x.clear();
        x.event(5, 0, 0, 0, 0, -5);
        Due.is("the root is oldest", x.count(7), 8);
        x.clear();
        x.event(0, 4, 3, 0, 0, 0);
        x.event(3, 0, 0, -3, -1, 0);
        Due.is("air under a bed", x.at(0, 0, 0), Due.NONE);
        Due.is("a bed over air", x.at(0, 0, 1), 4);
        Due.is("a gap of air is no crossing", x.count(7), 0);
    }
}
