/** Promises 21 to 24: sights, met or not. */
public final class SightsTest {
    private static final int LEAST = Integer.MIN_VALUE, MOST = Integer.MAX_VALUE;

    public static void main(String[] args) {
        promise21Numbers();
        promise21Bounds();
        promise21Full();
        promise22Skin();
        promise22Hole();
        promise22Top();
        promise22Dip();
        promise22Over();
        promise22Unknown();
        promise23Unmet();
        promise24Forget();
        Due.end();
    }

    private static void promise21Numbers() {
        HillLand x = new HillLand();
        Due.is("a skin", x.sight(0, 7, 7, -1, LEAST, MOST), 0);
        Due.is("a hole", x.sight(1, 0, 7, 15, -40, LEAST), 1);
        Due.is("a top", x.sight(2, 7, 0, 0, -40, 39), 2);
        Due.is("a dip", x.sight(3, 6, 7, 15, 0, -79), 3);
        Due.is("an over", x.sight(4, 0, 0, 15, 15, MOST), 4);
        Due.is("count(2)", x.count(2), 5);
    }

    private static void bad(int kind, int x, int y, int b, int p, int q) {
        String call = "sight(" + kind + ", " + x + ", " + y + ", " + b + ", " + p + ", " + q + ")";
        HillLand land = new HillLand();
        Due.is(call, land.sight(kind, x, y, b, p, q), Due.OUTSIDE);
        Due.is("count(2) after " + call, land.count(2), 0);
    }

    private static void good(int kind, int x, int y, int b, int p, int q) {
        Due.is("sight(" + kind + ", " + x + ", " + y + ", " + b + ", " + p + ", " + q + ")", new HillLand().sight(kind, x, y, b, p, q), 0);
    }

    private static void promise21Bounds() {
        bad(-1, 0, 0, 0, 0, 0);
        bad(5, 0, 0, 0, 0, 0);
        for (int kind = 0; kind <= 4; kind++) {
            bad(kind, -1, 0, 0, 0, 0);
            bad(kind, 8, 0, 0, 0, 0);
            bad(kind, 0, -1, 0, 0, 0);
            bad(kind, 0, 8, 0, 0, 0);
            bad(kind, 0, 0, 16, 0, 0);
            bad(kind, 0, 0, -2, 0, 0);
            good(kind, 0, 0, 15, 0, 0);
            good(kind, 0, 0, 0, 0, 0);
            if (kind < 2) good(kind, 0, 0, -1, 0, 0);
            else bad(kind, 0, 0, -1, 0, 0);
        }
        bad(1, 0, 0, 0, -41, 0);
        bad(1, 0, 0, 0, 40, 0);
        good(1, 0, 0, 0, 39, 99);
        bad(2, 0, 0, 0, -41, 0);
        bad(2, 0, 0, 0, 0, 40);
        bad(2, 0, 0, 0, 40, 40);
        bad(2, 0, 0, 0, -41, -41);
        bad(2, 0, 0, 0, 5, 4);
        good(2, 0, 0, 0, 4, 4);
        good(2, 0, 0, 0, 39, 39);
        bad(3, 0, 0, 0, 2, 0);
        bad(3, 0, 0, 0, -1, 0);
        bad(3, 0, 0, 0, 0, 80);
        bad(3, 0, 0, 0, 0, -80);
        good(3, 6, 7, 0, 0, 79);
        good(3, 7, 6, 0, 1, -79);
        bad(3, 7, 6, 0, 0, 0);
        bad(3, 6, 7, 0, 1, 0);
        bad(4, 0, 0, 0, -1, 0);
        bad(4, 0, 0, 0, 16, 0);
        good(4, 7, 7, 3, 3, LEAST);
    }

    private static void promise21Full() {
        HillLand x = new HillLand();
        for (int i = 0; i < 30; i++) Due.is("sight " + i, x.sight(0, 0, 0, i % 16, 0, 0), i);
        Due.is("a thirty-first", x.sight(0, 0, 0, 15, 0, 0), Due.FULL);
        Due.is("a wrong thirty-first", x.sight(0, 0, 0, 16, 0, 0), Due.OUTSIDE);
        Due.is("count(2)", x.count(2), 30);
        Due.is("count(8)", x.count(8), 29);
        Due.is("met(15)", x.met(15), 1);
        x.forget();
        Due.is("a thirtieth", x.sight(0, 0, 0, 15, 0, 0), 29);
        Due.is("met(29)", x.met(29), 1);
    }

    /** A sight told last to a land, and whether it is met. */
    private static void met(HillLand x, int want, int kind, int column, int b, int p, int q) {
        int i = x.sight(kind, column % 8, column / 8, b, p, q);
        Due.is("met of sight(" + kind + ", column " + column + ", " + b + ", " + p + ", " + q + ")", x.met(i), want);
        x.forget();
    }

    private static HillLand land() {
        HillLand x = new HillLand();
        x.event(0, 1, 3, 0, 0, 0);
        x.event(0, 2, 2, 0, 0, 0);
        x.event(5, 3, 0, 4, 4, 1);
        x.event(1, 0, 5, 0, 0, 0);
        return x;
    }

    private static void promise22Skin() {
        HillLand x = land();
        met(x, 1, 0, 0, 2, 0, 0);
        met(x, 0, 0, 0, 1, 0, 0);
        met(x, 0, 0, 0, -1, 0, 0);
        x.clear();
        met(x, 1, 0, 63, 15, 0, 0);
        x.event(4, -30, -8, -8, 0, 0);
        met(x, 1, 0, 63, -1, 0, 0);
        met(x, 0, 0, 63, 15, 0, 0);
        met(x, 0, 0, 0, -1, 0, 0);
    }

    private static void promise22Hole() {
        HillLand x = land();
        met(x, 1, 1, 0, 1, 2, 0);
        met(x, 0, 1, 0, 1, 3, 0);
        met(x, 1, 1, 0, 2, 4, 0);
        met(x, 1, 1, 0, -1, 5, 0);
        met(x, 0, 1, 0, -1, 4, 0);
        met(x, 1, 1, 0, 15, -40, 0);
        met(x, 1, 1, 0, -1, 39, 0);
        met(x, 1, 1, 4, 3, 1, 0);
        met(x, 1, 1, 32 + 4, 3, 6, 0);
    }

    private static void promise22Top() {
        HillLand x = land();
        met(x, 1, 2, 0, 1, 2, 2);
        met(x, 1, 2, 0, 1, -40, 2);
        met(x, 1, 2, 0, 1, 2, 39);
        met(x, 0, 2, 0, 1, 3, 39);
        met(x, 0, 2, 0, 1, -40, 1);
        met(x, 0, 2, 0, 3, -40, 39);
        met(x, 1, 2, 4, 3, 1, 1);
        met(x, 0, 2, 4, 15, -40, 39);
        met(x, 1, 2, 0, 15, -1, -1);
        met(x, 1, 2, 8, 15, 0, 0);
    }

    private static void promise22Dip() {
        HillLand x = land();
        // along y the land rises by FLOOR of 5 y / 4: 0 1 2 3 5 6 7 8
        met(x, 1, 3, 0, 1, 0, 0);
        met(x, 1, 3, 0, 1, 1, 1);
        met(x, 0, 3, 0, 1, 1, -1);
        met(x, 1, 3, 24, 2, 1, 2);
        met(x, 0, 3, 24, 2, 1, 1);
        met(x, 0, 3, 4, 3, 0, 0);
        met(x, 0, 3, 3, 3, 0, 0);
        met(x, 1, 3, 4, 3, 1, 1);
        met(x, 1, 3, 48, 1, 1, 1);
        met(x, 0, 3, 0, 9, 0, 0);
        x.event(1, -4, 0, 0, 0, 0);
        met(x, 1, 3, 6, 1, 0, -1);
        met(x, 0, 3, 6, 1, 0, 1);
        met(x, 1, 3, 7, 1, 1, 1);
        x.clear();
        met(x, 1, 3, 9, 15, 1, 0);
    }

    private static void promise22Over() {
        HillLand x = land();
        met(x, 1, 4, 0, 2, 1, 0);
        met(x, 0, 4, 0, 1, 2, 0);
        met(x, 1, 4, 0, 1, 15, 0);
        met(x, 0, 4, 0, 2, 15, 0);
        met(x, 1, 4, 0, 1, 1, 0);
        met(x, 1, 4, 4, 1, 3, 0);
        met(x, 0, 4, 4, 3, 15, 0);
        met(x, 1, 4, 36, 3, 3, 0);
        x.clear();
        x.event(0, 1, 1, 0, 0, 0);
        x.event(0, 2, 1, 0, 0, 0);
        met(x, 0, 4, 0, 1, 1, 0);
        met(x, 0, 4, 0, 2, 2, 0);
        x.event(5, 3, 1, 0, 0, -40);
        met(x, 1, 4, 0, 15, 3, 0);
        met(x, 0, 4, 0, 3, 3, 0);
        x.clear();
        for (int i = 0; i < 4; i++) x.event(0, 4, 8, 0, 0, 0);
        x.event(0, 4, 7, 0, 0, 0);
        x.event(0, 5, 8, 0, 0, 0);
        met(x, 1, 4, 0, 5, 4, 0);
        met(x, 0, 4, 0, 5, 5, 0);
    }

    private static void promise22Unknown() {
        HillLand x = new HillLand();
        Due.is("met(0) of none", x.met(0), Due.UNKNOWN);
        x.sight(0, 0, 0, 15, 0, 0);
        Due.is("met(0)", x.met(0), 1);
        Due.is("met(1)", x.met(1), Due.UNKNOWN);
        Due.is("met(-1)", x.met(-1), Due.UNKNOWN);
        Due.is("met(most)", x.met(MOST), Due.UNKNOWN);
        x.event(0, 1, 1, 0, 0, 0);
        Due.is("met(0) of the land as it is now", x.met(0), 0);
        x.undo();
        Due.is("met(0) of the land as it was", x.met(0), 1);
    }

    private static void promise23Unmet() {
        HillLand x = new HillLand();
        Due.is("unmet(-1, 0) of none", x.unmet(-1, 0), Due.NONE);
        Due.is("unmet(0, 0) of none", x.unmet(0, 0), Due.NONE);
        Due.is("unmet(1, 0) of none", x.unmet(1, 0), Due.OUTSIDE);
        int[] beds = {15, 1, 15, 1, 1, 15};
        for (int bed : beds) x.sight(0, 0, 0, bed, 0, 0);
        int[] due = {1, 3, 4, Due.NONE};
        for (int i = 0; i < 4; i++) {
            Due.is("unmet(-1, " + i + ")", x.unmet(-1, i), due[i]);
            Due.is("unmet(6, " + i + ")", x.unmet(6, i), due[i]);
            Due.is("unmet(4, " + i + ")", x.unmet(4, i), i < 2 ? due[i] : Due.NONE);
            Due.is("unmet(1, " + i + ")", x.unmet(1, i), Due.NONE);
            Due.is("unmet(0, " + i + ")", x.unmet(0, i), Due.NONE);
        }
        Due.is("unmet(-1, -1)", x.unmet(-1, -1), Due.NONE);
        Due.is("unmet(-1, least)", x.unmet(-1, LEAST), Due.NONE);
        Due.is("unmet(-1, most)", x.unmet(-1, MOST), Due.NONE);
        Due.is("unmet(-2, 0)", x.unmet(-2, 0), Due.OUTSIDE);
        Due.is("unmet(7, 0)", x.unmet(7, 0), Due.OUTSIDE);
        Due.is("unmet(most, 0)", x.unmet(MOST, 0), Due.OUTSIDE);
        Due.is("count(8)", x.count(8), 3);
    }

    private static void promise24Forget() {
        HillLand x = new HillLand();
        Due.is("forget() of none", x.forget(), Due.NOT);
        x.sight(0, 0, 0, 15, 0, 0);
        x.sight(0, 0, 0, 1, 0, 0);
        Due.is("stories(-1)", x.stories(-1), 0);
        Due.is("forget()", x.forget(), 1);
        Due.is("stories(-1) then", x.stories(-1), 1);
        Due.is("count(2)", x.count(2), 1);
        Due.is("count(8)", x.count(8), 0);
        Due.is("met(1)", x.met(1), Due.UNKNOWN);
        Due.is("forget()", x.forget(), 0);
        Due.is("forget() of none left", x.forget(), Due.NOT);
    }
}
