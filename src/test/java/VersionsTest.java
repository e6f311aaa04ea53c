/** Promises 18 to 20: versions kept and held against the land. */
public final class VersionsTest {
    public static void main(String[] args) {
        promise18Keep();
        promise19Back();
        promise19LooseAsThen();
        promise20Differ();
        promise20AlikeEvents();
        promise20UndoneEvents();
        promise20Refusals();
        Due.end();
    }

    private static void promise18Keep() {
        HillLand x = new HillLand();
        Due.is("keep(-1)", x.keep(-1), Due.OUTSIDE);
        Due.is("keep(4)", x.keep(4), Due.OUTSIDE);
        Due.is("keep(most)", x.keep(Integer.MAX_VALUE), Due.OUTSIDE);
        Due.is("count(5)", x.count(5), 0);
        Due.is("keep(0) of none", x.keep(0), 0);
        Due.is("count(5)", x.count(5), 1);
        x.event(0, 1, 1, 0, 0, 0);
        x.event(0, 2, 1, 0, 0, 0);
        Due.is("keep(3)", x.keep(3), 2);
        Due.is("count(0) is as it was", x.count(0), 2);
        x.undo();
        Due.is("keep(3) anew", x.keep(3), 1);
        Due.is("count(5)", x.count(5), 2);
        x.event(0, 3, 1, 0, 0, 0);
        Due.is("back(3) is the later one", x.back(3), 1);
    }

    private static void promise19Back() {
        HillLand x = new HillLand();
        for (int v = -1; v <= 4; v++) Due.is("back(" + v + ") of nothing", x.back(v), Due.UNKNOWN);
        Due.is("back(least)", x.back(Integer.MIN_VALUE), Due.UNKNOWN);
        for (int v = 0; v < 4; v++) {
            x.event(0, v, 1, 0, 0, 0);
            x.keep(v);
        }
        x.clear();
        for (int v = 3; v >= 0; v--) {
            Due.is("back(" + v + ")", x.back(v), v + 1);
            Due.is("count(0)", x.count(0), v + 1);
            Due.is("skin", x.skin(2, 3, 0), v);
            Due.is("skin's bed", x.skin(2, 3, 1), v);
            Due.is("told(" + v + ", 1)", x.told(v, 1), v);
        }
        Due.is("count(5)", x.count(5), 4);
        x.event(1, 4, 0, 0, 0, 0);
        Due.is("back(0): the version has not changed", x.back(0), 1);
        x.clear();
        x.keep(1);
        x.back(3);
        Due.is("back(1) to no events", x.back(1), 0);
        Due.is("skin at first", x.skin(2, 3, 0), -1);
        Due.feed(x, "tilt 1 1;");
        x.read();
        Due.is("back(0): a text changes no version", x.back(0), 1);
        Due.is("told(0, 0)", x.told(0, 0), 0);
        Due.is("back(4)", x.back(4), Due.UNKNOWN);
    }

    private static void promise19LooseAsThen() {
        HillLand x = new HillLand();
        x.event(0, 1, 2, 0, 0, 0);
        x.event(0, 2, 2, 0, 0, 0);
        x.loose(1, true);
        x.keep(0);
        x.loose(1, false);
        x.loose(0, true);
        Due.is("amount(1, 2)", x.amount(1, 2), 64 * 3);
        Due.is("amount(2, 2)", x.amount(2, 2), 64 * 2);
        x.back(0);
        Due.is("told(0, 6)", x.told(0, 6), 0);
        Due.is("told(1, 6)", x.told(1, 6), 1);
        Due.is("count(1)", x.count(1), 1);
        Due.is("amount(1, 2)", x.amount(1, 2), 64 * 2);
        Due.is("amount(2, 2)", x.amount(2, 2), 64 * 3);
    }

    private static void promise20Differ() {
        HillLand x = new HillLand();
        x.event(0, 1, 2, 0, 0, 0);
        x.keep(0);
        for (int what = 0; what <= 3; what++) {
            Due.is("differ(0, " + what + ") of the same", x.differ(0, what), new int[] {0, Due.NONE, 0, 1}[what]);
        }
        x.event(5, 2, 1, 3, 4, 0);
        for (int what = 0; what <= 3; what++) {
            Due.is("differ(0, " + what + ") by a dyke", x.differ(0, what), new int[] {16, 24, 16 * 41, 1}[what]);
        }
        x.event(5, 1, 0, 6, 6, 0);
        Due.is("differ(0, 0)", x.differ(0, 0), 16 + 6);
        Due.is("differ(0, 1)", x.differ(0, 1), 6);
        Due.is("differ(0, 2)", x.differ(0, 2), 14 * 41 + 2 * 40 + 6 * 40);
        x.keep(1);
        Due.is("differ(1, 0)", x.differ(1, 0), 0);
        x.back(0);
        Due.is("differ(1, 0) the other way", x.differ(1, 0), 22);
        Due.is("differ(0, 0)", x.differ(0, 0), 0);
        x.clear();
        x.keep(3);
        x.event(5, 1, 1, 5, 5, -40);
        Due.is("differ(3, 0) by single cells", x.differ(3, 0), 8);
        Due.is("differ(3, 1) by single cells", x.differ(3, 1), 40);
        Due.is("differ(3, 2) by single cells", x.differ(3, 2), 8);
        x.undo();
        Due.is("differ(0, 0) of no events", x.differ(0, 0), 64);
        Due.is("differ(0, 1) of no events", x.differ(0, 1), 0);
        Due.is("differ(0, 2) of no events", x.differ(0, 2), 128);
        Due.is("differ(0, 3) of no events", x.differ(0, 3), 0);
    }

    private static void promise20AlikeEvents() {
        HillLand x = new HillLand();
        x.event(0, 1, 2, 7, 7, 7);
        x.event(5, 3, 1, 2, 4, -7);
        x.event(1, 0, 0, 0, 0, 0);
        x.keep(2);
        x.loose(0, true);
        Due.is("being loose makes no event unlike", x.differ(2, 3), 3);
        x.undo();
        Due.is("fewer events", x.differ(2, 3), 2);
        x.keep(0);
        x.event(4, 0, 0, 0, 0, 0);
        Due.is("another kind with like numbers", x.differ(2, 3), 2);
        x.undo();
        x.event(2, 0, 0, 2, 0, 0);
        Due.is("another kind that does as much", x.differ(2, 3), 2);
        Due.is("though the lands are like", x.differ(2, 0), 0);
        Due.is("more events", x.differ(0, 3), 2);
        x.clear();
        x.event(0, 1, 2, 0, 0, 0);
        x.event(5, 3, 1, 2, 4, -8);
        x.event(1, 0, 0, 0, 0, 0);
        Due.is("what a kind has not is no matter, its last number is", x.differ(2, 3), 1);
        x.clear();
        x.event(0, 1, 1, 0, 0, 0);
        x.event(5, 3, 1, 2, 4, -7);
        Due.is("an unlike first event", x.differ(2, 3), 0);
    }

    /** What was undone ahead of keep() is no part of the version, though it is told once more. */
    private static void promise20UndoneEvents() {
        HillLand x = new HillLand();
        for (int i = 0; i < 3; i++) x.event(1, i, 0, 0, 0, 0);
        x.undo();
        x.keep(1);
        Due.is("an event told once more", x.event(1, 2, 0, 0, 0, 0), 2);
        Due.is("is not in the version", x.differ(1, 3), 2);
        x.keep(3);
        x.undo();
        Due.is("what is undone is not in the events", x.differ(3, 3), 2);
        Due.is("back(1)", x.back(1), 2);
        x.event(1, 2, 0, 0, 0, 0);
        Due.is("all are in the greater version", x.differ(3, 3), 3);
        Due.is("two in the lesser one", x.differ(1, 3), 2);
        x.clear();
        x.keep(0);
        for (int i = 0; i < 3; i++) x.event(1, i, 0, 0, 0, 0);
        Due.is("nothing is alike in an empty version", x.differ(0, 3), 0);
        x.keep(2);
        x.clear();
        Due.is("nothing is alike without events", x.differ(2, 3), 0);
        Due.is("an empty version is as no events", x.differ(0, 3), 0);
    }

    private static void promise20Refusals() {
        HillLand x = new HillLand();
        Due.is("differ(0, 9) of nothing kept", x.differ(0, 9), Due.UNKNOWN);
        x.keep(0);
        Due.is("differ(0, -1)", x.differ(0, -1), Due.OUTSIDE);
        Due.is("differ(0, 4)", x.differ(0, 4), Due.OUTSIDE);
        Due.is("differ(1, 0)", x.differ(1, 0), Due.UNKNOWN);
        Due.is("differ(1, 4)", x.differ(1, 4), Due.UNKNOWN);
        Due.is("differ(-1, 0)", x.differ(-1, 0), Due.UNKNOWN);
        Due.is("differ(4, 0)", x.differ(4, 0), Due.UNKNOWN);
        Due.is("differ(most, 0)", x.differ(Integer.MAX_VALUE, 0), Due.UNKNOWN);
    }
}
