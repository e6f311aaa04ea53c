/** Promise 29: drawings; the heights due were found by trying all rows of heights. */
public final class DrawingTest {
    private static final int LEAST = Integer.MIN_VALUE, MOST = Integer.MAX_VALUE;

    public static void main(String[] args) {
        unbound();
        boundByTops();
        asKnown();
        drawnAnew();
        drawnAnewByAll();
        drawnAnewToZero();
        firstOfSeveral();
        severalTops();
        withinTwenty();
        otherSightsAreNotLookedAt();
        none();
        refusals();
        Due.end();
    }

    private static void drawn(HillLand x, int bed, int axis, int line, int k, int bend, int... heights) {
        String call = "draw(" + bed + ", " + axis + ", " + line + ", " + k + ", ";
        Due.is(call + "-1)", x.draw(bed, axis, line, k, -1), bend);
        for (int i = 0; i < 8; i++) Due.is(call + i + ")", x.draw(bed, axis, line, k, i), heights[i]);
    }

    /** A land with tops of bed 5 along y in the columns with x 6: each a step, the least and the greatest height. */
    private static HillLand tops(int... numbers) {
        HillLand x = new HillLand();
        for (int i = 0; i + 2 < numbers.length; i += 3) x.sight(2, 6, numbers[i], 5, numbers[i + 1], numbers[i + 2]);
        return x;
    }

    private static void drawnByTops(HillLand x, int bend, int... heights) {
        drawn(x, 5, 1, 6, -1, bend, heights);
    }

    private static void unbound() {
        HillLand x = new HillLand();
        drawn(x, 0, 0, 0, -1, 0, -20, -20, -20, -20, -20, -20, -20, -20);
        drawn(x, 15, 1, 7, 0, 0, -20, -20, -20, -20, -20, -20, -20, -20);
    }

    private static void boundByTops() {
        HillLand x = new HillLand();
        x.sight(2, 0, 3, 4, 2, 2);
        x.sight(2, 7, 3, 4, 9, 9);
        drawn(x, 4, 0, 3, -1, 0, 2, 3, 4, 5, 6, 7, 8, 9);
        drawn(x, 4, 0, 2, -1, 0, -20, -20, -20, -20, -20, -20, -20, -20);
        drawn(x, 3, 0, 3, -1, 0, -20, -20, -20, -20, -20, -20, -20, -20);
        drawn(x, 4, 1, 0, -1, 0, -10, -6, -2, 2, 6, 10, 14, 18);
        drawn(x, 4, 1, 7, -1, 0, 3, 5, 7, 9, 11, 13, 15, 17);
        drawn(x, 4, 1, 3, -1, 0, -20, -20, -20, -20, -20, -20, -20, -20);
    }

    private static void asKnown() {
        HillLand x = new HillLand();
        x.sight(2, 0, 3, 4, 2, 2);
        x.sight(2, 7, 3, 4, 9, 9);
        drawn(x, 4, 0, 3, 0, 0, -20, -20, -20, -20, -20, -20, -20, -20);
        drawn(x, 4, 0, 3, 1, 0, 2, -1, -4, -7, -10, -13, -16, -19);
        drawn(x, 4, 0, 3, 2, 0, 2, 3, 4, 5, 6, 7, 8, 9);
        x.forget();
        drawn(x, 4, 0, 3, -1, 0, 2, -1, -4, -7, -10, -13, -16, -19);
        x.sight(2, 7, 3, 4, 2, 2);
        drawn(x, 4, 0, 3, -1, 0, 2, 2, 2, 2, 2, 2, 2, 2);
    }

    /** A drawing is drawn anew where a bound alone has changed, below or above, at any step. */
    private static void drawnAnew() {
        HillLand x = tops(7, -40, 39);
        drawnByTops(x, 0, -20, -20, -20, -20, -20, -20, -20, -20);
        x.sight(2, 6, 7, 5, 8, 39);
        drawnByTops(x, 0, -20, -16, -12, -8, -4, 0, 4, 8);
        x.sight(2, 6, 0, 5, -2, 39);
        drawnByTops(x, 0, -2, 0, 2, 4, 6, 8, 10, 12);
        x.sight(2, 6, 7, 5, -40, 11);
        drawnByTops(x, 0, 1, 2, 3, 4, 5, 6, 7, 8);
        x.forget();
        x.forget();
        drawnByTops(x, 0, -20, -16, -12, -8, -4, 0, 4, 8);
    }

    /** Drawn again where each bound below, or each above, has changed, and none of the others. */
    private static void drawnAnewByAll() {
        HillLand x = new HillLand();
        for (int step = 0; step < 8; step++) {
            x.sight(2, step, 1, 5, -11, 39);
            x.sight(2, step, 2, 5, -11, 7);
        }
        drawn(x, 5, 0, 0, -1, 0, -20, -20, -20, -20, -20, -20, -20, -20);
        drawn(x, 5, 0, 1, -1, 0, -11, -11, -11, -11, -11, -11, -11, -11);
        x.sight(2, 3, 0, 5, -20, -20);
        drawn(x, 5, 0, 2, -1, 0, -11, -11, -11, -11, -11, -11, -11, -11);
        x.sight(2, 4, 1, 5, 8, 8);
        drawn(x, 5, 0, 1, -1, 0, -8, -4, 0, 4, 8, 12, 16, 20);
        Due.is("a drawing that there is not", x.sight(2, 4, 2, 5, 8, 8), 18);
        Due.is("draw of 8 beyond 7", x.draw(5, 0, 2, -1, 0), Due.NOT);
        drawn(x, 5, 0, 2, 18, 0, -11, -11, -11, -11, -11, -11, -11, -11);
        x = tops(3, 5, 39);
        for (int step = 0; step < 8; step++) x.sight(2, 5, step, 5, step == 3 ? 5 : -20, 7);
        drawn(x, 5, 1, 6, -1, 0, -4, -1, 2, 5, 8, 11, 14, 17);
        drawn(x, 5, 1, 5, -1, 0, 5, 5, 5, 5, 5, 5, 5, 5);
    }

    /** Drawn again where each bound below, or each above, has become 0. */
    private static void drawnAnewToZero() {
        HillLand x = new HillLand();
        for (int step = 0; step < 8; step++) x.sight(2, step, 0, 6, -5, 5);
        for (int step = 0; step < 8; step++) x.sight(2, step, 0, 6, 0, 5);
        drawn(x, 6, 0, 0, 8, 0, -5, -5, -5, -5, -5, -5, -5, -5);
        drawn(x, 6, 0, 0, 16, 0, 0, 0, 0, 0, 0, 0, 0, 0);
        x = new HillLand();
        for (int step = 0; step < 8; step++) x.sight(2, step, 4, 6, step == 7 ? 0 : -5, 3);
        for (int step = 0; step < 8; step++) x.sight(2, step, 4, 6, -20, 0);
        drawn(x, 6, 0, 4, 8, 0, -5, -4, -3, -2, -1, 0, 1, 2);
        drawn(x, 6, 0, 4, 16, 0, 0, 0, 0, 0, 0, 0, 0, 0);
    }

    private static void firstOfSeveral() {
        drawnByTops(tops(0, 0, 0, 7, 1, 1), 1, 0, 0, 0, 0, 0, 0, 0, 1);
        drawnByTops(tops(3, 2, 4, 4, -1, 6, 5, 6, 7), 0, -4, -2, 0, 2, 4, 6, 8, 10);
        drawnByTops(tops(6, -3, -3, 7, 5, 5), 11, -20, -19, -18, -16, -13, -9, -3, 5);
    }

    private static void severalTops() {
        drawnByTops(tops(0, 0, 1, 2, 5, 6, 5, -3, -2, 7, 4, 4), 35, 1, 4, 5, 3, 0, -2, 0, 4);
        drawnByTops(tops(2, 0, 0, 3, 10, 10, 4, 0, 0), 408, -20, -10, 0, 10, 0, -8, -14, -20);
        drawnByTops(tops(0, -10, 3, 3, 8, 12, 6, -4, -1), 11, 3, 6, 8, 8, 6, 3, -1, -5);
        // two tops in one column leave what they have in common
        drawnByTops(tops(4, -5, 7, 4, 7, 9, 3, 7, 7, 3, -40, 39), 0, 7, 7, 7, 7, 7, 7, 7, 7);
    }

    private static void withinTwenty() {
        drawnByTops(tops(2, 18, 25, 5, 19, 20), 0, 19, 19, 19, 19, 19, 19, 19, 19);
        drawnByTops(tops(1, 20, 39, 3, -40, -20), 800, 20, 20, 0, -20, -20, -20, -20, -20);
        drawnByTops(tops(0, -20, -20, 1, 20, 20, 2, -20, -20, 3, 20, 20, 4, -20, -20, 5, 20, 20, 6, -20, -20, 7, 20, 20), 38400,
            -20, 20, -20, 20, -20, 20, -20, 20);
    }

    private static void otherSightsAreNotLookedAt() {
        HillLand x = new HillLand();
        x.event(0, 5, 4, 0, 0, 0);
        x.sight(0, 2, 0, 5, 0, 0);
        x.sight(1, 2, 0, 5, 3, 3);
        x.sight(3, 2, 0, 5, 0, 7);
        x.sight(4, 2, 0, 5, 7, 7);
        x.sight(2, 2, 1, 5, 7, 7);
        x.sight(2, 2, 0, 6, 7, 7);
        drawn(x, 5, 0, 0, -1, 0, -20, -20, -20, -20, -20, -20, -20, -20);
    }

    private static void none() {
        HillLand x = tops(1, 3, 4, 1, 5, 6);
        Due.is("draw of heights that are apart", x.draw(5, 1, 6, -1, -1), Due.NOT);
        Due.is("draw of heights that are apart", x.draw(5, 1, 6, 2, 7), Due.NOT);
        Due.is("draw as known by 1", x.draw(5, 1, 6, 1, 0), 1);
        Due.is("draw along the other axis", x.draw(5, 0, 1, -1, 6), Due.NOT);
        Due.is("draw through another column row", x.draw(5, 1, 5, -1, 0), -20);
        Due.is("draw of another bed", x.draw(4, 1, 6, -1, 0), -20);
        Due.is("draw of a top above 20", tops(4, 21, 39).draw(5, 1, 6, -1, -1), Due.NOT);
        Due.is("draw of a top below -20", tops(7, -40, -21).draw(5, 1, 6, -1, 0), Due.NOT);
    }

    private static void refusals() {
        HillLand x = tops(1, 3, 4, 1, 5, 6);
        int[][] wrong = {{-1, 1, 6, -1, 0}, {16, 1, 6, -1, 0}, {5, -1, 6, -1, 0}, {5, 2, 6, -1, 0}, {5, 1, -1, -1, 0}, {5, 1, 8, -1, 0},
            {5, 1, 6, -2, 0}, {5, 1, 6, 3, 0}, {5, 1, 6, -1, -2}, {5, 1, 6, -1, 8}, {LEAST, 1, 6, -1, 0}, {5, 1, 6, MOST, 0},
            {5, 1, 6, -1, MOST}, {5, MOST, 6, -1, 0}, {5, 1, LEAST, -1, 0}};
        for (int[] n : wrong) Due.is("draw" + java.util.Arrays.toString(n), x.draw(n[0], n[1], n[2], n[3], n[4]), Due.OUTSIDE);
    }
}
