/** Promises 25 to 28: ages. */
public final class AgesTest {
    private static final int LEAST = Integer.MIN_VALUE, MOST = Integer.MAX_VALUE;

    public static void main(String[] args) {
        promise25Claim();
        promise25Full();
        promise26Row();
        promise26First();
        promise26Refusals();
        promise27Sure();
        promise27Refusals();
        promise28Broken();
        Due.end();
    }

    private static HillLand claims(int... numbers) {
        HillLand x = new HillLand();
        for (int i = 0; i + 2 < numbers.length; i += 3) x.claim(numbers[i], numbers[i + 1], numbers[i + 2]);
        return x;
    }

    private static void row(HillLand x, int quarrel, int... beds) {
        int n = beds.length;
        Due.is("row(" + n + ", -1)", x.row(n, -1), quarrel);
        for (int i = 0; i < n; i++) Due.is("row(" + n + ", " + i + ")", x.row(n, i), beds[i]);
    }

    private static void promise25Claim() {
        HillLand x = new HillLand();
        int[][] wrong = {{0, 0, 1}, {7, 7, 1}, {8, 0, 1}, {0, 8, 1}, {-1, 0, 1}, {0, -1, 1}, {0, 1, 0}, {0, 1, 100}, {0, 1, -1},
            {MOST, 0, 1}, {0, LEAST, 1}, {0, 1, MOST}};
        for (int[] n : wrong) Due.is("claim" + java.util.Arrays.toString(n), x.claim(n[0], n[1], n[2]), Due.OUTSIDE);
        Due.is("count(3)", x.count(3), 0);
        Due.is("claim(7, 0, 99)", x.claim(7, 0, 99), 0);
        Due.is("claim(0, 7, 1)", x.claim(0, 7, 1), 1);
        Due.is("claim(7, 0, 99) again", x.claim(7, 0, 99), 2);
        Due.is("count(3)", x.count(3), 3);
    }

    private static void promise25Full() {
        HillLand x = new HillLand();
        for (int i = 0; i < 24; i++) Due.is("claim " + i, x.claim(1, 0, 99), i);
        Due.is("a twenty-fifth", x.claim(0, 1, 99), Due.FULL);
        Due.is("a wrong twenty-fifth", x.claim(1, 1, 99), Due.OUTSIDE);
        Due.is("count(3)", x.count(3), 24);
        row(x, 0, 1, 0);
        x.event(0, 0, 1, 0, 0, 0);
        x.event(0, 1, 1, 0, 0, 0);
        Due.is("broken()", x.broken(), 24 * 99);
    }

    private static void promise26Row() {
        row(new HillLand(), 0, 0, 1, 2, 3, 4, 5, 6, 7);
        row(claims(7, 0, 1), 0, 1, 2, 3, 4, 5, 6, 7, 0);
        row(claims(7, 0, 1), 0, 0, 1, 2, 3, 4, 5, 6);
        HillLand x = claims(0, 1, 5, 1, 2, 5, 2, 0, 3);
        row(x, 3, 0, 1, 2);
        row(x, 0, 0, 1);
        x.claim(2, 0, 3);
        // 2 older than 0 weighs 6 now, so one of the others is broken, and 1 comes ahead of 2
        row(x, 5, 1, 2, 0);
        x.claim(0, 1, 1);
        row(x, 5, 2, 0, 1);
        row(claims(1, 0, 2, 0, 1, 2), 2, 0, 1);
        row(claims(1, 0, 2, 0, 1, 1), 1, 1, 0);
        row(claims(3, 2, 1, 2, 1, 1, 1, 0, 1), 0, 3, 2, 1, 0);
        row(claims(3, 2, 9, 2, 1, 9, 1, 0, 9, 0, 3, 8, 4, 0, 2, 0, 4, 3), 10, 3, 2, 1, 0, 4);
    }

    /** Of rows with like quarrels the first by beds. */
    private static void promise26First() {
        row(claims(2, 1, 1), 0, 0, 2, 1);
        row(claims(1, 0, 1, 2, 0, 1), 0, 1, 2, 0);
        row(claims(3, 1, 4, 1, 2, 4), 0, 0, 3, 1, 2);
        row(claims(2, 0, 1, 0, 2, 1, 3, 1, 1), 1, 0, 2, 3, 1);
        row(claims(1, 0, 7, 2, 0, 7, 0, 1, 7), 7, 1, 2, 0);
    }

    private static void promise26Refusals() {
        HillLand x = claims(1, 0, 1);
        for (int n : new int[] {1, 9, 0, -1, LEAST, MOST}) {
            Due.is("row(" + n + ", 0)", x.row(n, 0), Due.OUTSIDE);
            Due.is("row(" + n + ", -1)", x.row(n, -1), Due.OUTSIDE);
        }
        Due.is("row(2, 2)", x.row(2, 2), Due.OUTSIDE);
        Due.is("row(8, 8)", x.row(8, 8), Due.OUTSIDE);
        Due.is("row(2, -2)", x.row(2, -2), Due.OUTSIDE);
        Due.is("row(2, most)", x.row(2, MOST), Due.OUTSIDE);
    }

    private static void sure(HillLand x, int n, int a, int b, int want) {
        Due.is("sure(" + n + ", " + a + ", " + b + ")", x.sure(n, a, b), want);
        Due.is("sure(" + n + ", " + b + ", " + a + ")", x.sure(n, b, a), want == 0 ? 0 : 3 - want);
    }

    private static void promise27Sure() {
        sure(new HillLand(), 2, 0, 1, 0);
        HillLand x = claims(0, 1, 5, 1, 2, 5, 2, 0, 3);
        sure(x, 3, 0, 1, 1);
        sure(x, 3, 1, 2, 1);
        sure(x, 3, 0, 2, 1);
        sure(x, 4, 0, 3, 0);
        sure(x, 2, 0, 1, 1);
        x = claims(3, 1, 4, 1, 2, 4);
        sure(x, 4, 3, 2, 1);
        sure(x, 4, 2, 3, 2);
        sure(x, 4, 0, 3, 0);
        sure(x, 3, 1, 2, 1);
        x = claims(0, 1, 2, 1, 0, 2);
        sure(x, 2, 0, 1, 0);
        x = claims(0, 1, 2, 1, 0, 3);
        sure(x, 8, 0, 1, 2);
        // a ring of like weights may break anywhere
        x = claims(0, 1, 2, 1, 2, 2, 2, 0, 2);
        sure(x, 3, 0, 1, 0);
        sure(x, 3, 1, 2, 0);
        sure(x, 3, 0, 2, 0);
        // a claim of a bed beyond n says nothing
        x = claims(0, 5, 2, 5, 1, 2);
        sure(x, 5, 0, 1, 0);
        sure(x, 6, 0, 1, 1);
    }

    private static void promise27Refusals() {
        HillLand x = claims(1, 0, 1);
        int[][] wrong = {{1, 0, 1}, {9, 0, 1}, {3, 1, 1}, {3, 3, 0}, {3, 0, 3}, {3, -1, 0}, {3, 0, -1}, {2, 0, 2}, {LEAST, 0, 1}, {MOST, 0, 1},
            {3, MOST, 0}, {3, 0, LEAST}};
        for (int[] n : wrong) Due.is("sure" + java.util.Arrays.toString(n), x.sure(n[0], n[1], n[2]), Due.OUTSIDE);
        Due.is("sure(8, 7, 6)", x.sure(8, 7, 6), 0);
    }

    private static void promise28Broken() {
        HillLand x = claims(0, 1, 5, 2, 0, 3, 3, 4, 7, 1, 0, 11);
        Due.is("broken() without events", x.broken(), 0);
        x.event(0, 1, 1, 0, 0, 0);
        Due.is("broken() of one bed", x.broken(), 0);
        x.event(5, 0, 0, 0, 0, -40);
        Due.is("broken() of 1 older than 0", x.broken(), 5);
        x.event(0, 2, 1, 0, 0, 0);
        Due.is("broken() with 2 youngest", x.broken(), 8);
        x.event(0, 4, 1, 0, 0, 0);
        Due.is("broken() without a 3", x.broken(), 8);
        x.event(0, 3, 1, 0, 0, 0);
        Due.is("broken() of all", x.broken(), 15);
        x.event(0, 0, 1, 0, 0, 0);
        Due.is("a later bed changes no youth", x.broken(), 15);
        x.swap(0);
        Due.is("broken() of 0 older than 1", x.broken(), 21);
    }
}
