/** Promises 30 to 35: stories. */
public final class StoriesTest {
    private static final int LEAST = Integer.MIN_VALUE, MOST = Integer.MAX_VALUE;

    public static void main(String[] args) {
        promise30Maybe();
        promise31Never();
        promise32HowMany();
        promise32Fits();
        promise32AsKnown();
        promise32AsAllIsNow();
        promise32Refusals();
        promise33Order();
        promise33OrderOfFour();
        promise33Refusals();
        promise34MostUnlike();
        promise34LeastGreatest();
        promise34First();
        promise34OnlyThoseThatFit();
        promise34Refusals();
        promise35Take();
        promise35Refusals();
        Due.end();
    }

    private static void promise30Maybe() {
        HillLand x = new HillLand();
        Due.is("a wrong first", x.maybe(0, 15, 1, 0, 0, 0), Due.OUTSIDE);
        for (int i = 0; i < 4; i++) Due.is("maybe " + i, x.maybe(1, i, 0, LEAST, MOST, 9), i);
        Due.is("a fifth", x.maybe(1, 0, 0, 0, 0, 0), Due.FULL);
        Due.is("a wrong fifth", x.maybe(1, 9, 0, 0, 0, 0), Due.OUTSIDE);
        Due.is("a fifth of no kind", x.maybe(6, 0, 0, 0, 0, 0), Due.OUTSIDE);
        Due.is("count(4)", x.count(4), 4);
        Due.is("count(0)", x.count(0), 0);
        Due.is("the land is as it was", x.skin(7, 0, 0), -1);
    }

    private static void promise31Never() {
        HillLand x = new HillLand();
        Due.is("never() of none", x.never(), 0);
        x.maybe(1, 1, 0, 0, 0, 0);
        x.maybe(1, 2, 0, 0, 0, 0);
        Due.is("stories(-1)", x.stories(-1), 5);
        Due.is("never()", x.never(), 2);
        Due.is("never() again", x.never(), 0);
        Due.is("count(4)", x.count(4), 0);
        Due.is("stories(-1) then", x.stories(-1), 1);
        Due.is("maybe anew", x.maybe(1, 1, 0, 0, 0, 0), 0);
    }

    private static void promise32HowMany() {
        HillLand x = new HillLand();
        int[] due = {1, 2, 5, 16, 65};
        for (int i = 0; i <= 4; i++) {
            Due.is("stories(-1) of " + i, x.stories(-1), due[i]);
            Due.is("stories(0) of " + i, x.stories(0), due[i]);
            x.maybe(1, 0, 0, 0, 0, 0);
        }
    }

    /** Two beds that may be laid, and a cut: the bed 2 is to lie right on the bed 1, and be 2 thick. */
    private static HillLand beds() {
        HillLand x = new HillLand();
        x.maybe(0, 2, 4, 0, 0, 0);
        x.maybe(4, 3, 0, 0, 0, 0);
        x.maybe(0, 1, 2, 0, 0, 0);
        x.sight(4, 3, 3, 2, 1, 0);
        x.sight(2, 5, 5, 2, 3, 5);
        x.sight(1, 0, 0, -1, 3, 0);
        return x;
    }

    private static void told(HillLand x, int k, int i, int... parts) {
        Due.is("story(" + k + ", " + i + ", -1)", x.story(k, i, -1), parts.length);
        for (int j = 0; j < parts.length; j++) Due.is("story(" + k + ", " + i + ", " + j + ")", x.story(k, i, j), parts[j]);
        Due.is("story(" + k + ", " + i + ", behind its last)", x.story(k, i, parts.length), Due.NONE);
    }

    private static void noStory(HillLand x, int k, int i) {
        for (int j = -1; j <= 4; j++) Due.is("story(" + k + ", " + i + ", " + j + ")", x.story(k, i, j), Due.NONE);
    }

    private static void promise32Fits() {
        HillLand x = beds();
        // 2 0: tops at 5, met but for the hole; 2 0 1: cut down to 2; 1 2 0: as 2 0
        Due.is("stories(1)", x.stories(1), 4);
        told(x, 1, 0, 2, 0);
        told(x, 1, 1, 1, 2, 0);
        told(x, 1, 2, 2, 0, 1);
        told(x, 1, 3, 2, 1, 0);
        noStory(x, 1, 4);
        Due.is("stories(2)", x.stories(2), 3);
        told(x, 2, 0, 2, 0);
        told(x, 2, 1, 1, 2, 0);
        told(x, 2, 2, 2, 1, 0);
        noStory(x, 2, 3);
        Due.is("stories(3)", x.stories(3), 0);
        noStory(x, 3, 0);
    }

    private static void promise32AsKnown() {
        HillLand x = beds();
        Due.is("stories(0)", x.stories(0), 16);
        Due.is("stories(-1)", x.stories(-1), 0);
        Due.is("stories(1)", x.stories(1), 4);
        Due.is("stories(2)", x.stories(2), 3);
        Due.is("stories(0) again", x.stories(0), 16);
        x.forget();
        Due.is("stories(-1) without the last", x.stories(-1), 3);
        Due.is("stories(3) without the last", x.stories(3), Due.OUTSIDE);
        x.forget();
        x.forget();
        Due.is("stories(-1) without any", x.stories(-1), 16);
    }

    /** What is found out about stories is told anew when the events, the sights or what may be are others. */
    private static void promise32AsAllIsNow() {
        HillLand x = new HillLand();
        x.maybe(0, 1, 1, 0, 0, 0);
        x.sight(0, 0, 0, 1, 0, 0);
        Due.is("stories(-1)", x.stories(-1), 1);
        x.event(0, 1, 1, 0, 0, 0);
        Due.is("stories(-1) after an event", x.stories(-1), 2);
        Due.is("next(-1, 1) after an event", x.next(-1, 1), 2);
        x.maybe(4, 0, 0, 0, 0, 0);
        // none, the bed, or the cut and then the bed, which leaves what there was
        Due.is("stories(-1) with one more that may be", x.stories(-1), 3);
        Due.is("next(-1, 1) with one more that may be", x.next(-1, 1), 2);
        Due.is("next(-1, 2) with one more that may be", x.next(-1, 2), 2);
        x.sight(1, 0, 0, 1, 1, 0);
        Due.is("stories(-1) after a sight", x.stories(-1), 1);
        x.undo();
        Due.is("stories(1) after an undo", x.stories(1), 2);
        Due.is("stories(2) after an undo", x.stories(2), 0);
        x.event(0, 1, 1, 0, 0, 0);
        x.event(0, 2, 1, 0, 0, 0);
        Due.is("stories(1) with another bed on it", x.stories(1), 2);
        x.keep(0);
        x.swap(0);
        Due.is("stories(1) after a swap", x.stories(1), 3);
        x.back(0);
        Due.is("stories(1) after a back", x.stories(1), 2);
        Due.feed(x, "lay 1 1;");
        x.read();
        Due.is("stories(1) after a read", x.stories(1), 3);
        x.clear();
        Due.is("stories(1) after a clear", x.stories(1), 2);
        x.never();
        Due.is("stories(1) after a never", x.stories(1), 0);
        x.forget();
        x.forget();
        x.sight(0, 0, 0, 15, 0, 0);
        Due.is("stories(1) after another first sight", x.stories(1), 1);
    }

    private static void promise32Refusals() {
        HillLand x = beds();
        for (int k : new int[] {-2, 4, LEAST, MOST}) Due.is("stories(" + k + ")", x.stories(k), Due.OUTSIDE);
        for (int i = 0; i < 13; i++) x.event(1, 0, 0, 0, 0, 0);
        Due.is("stories(0) of 13 and 3", x.stories(0), 16);
        x.event(1, 0, 0, 0, 0, 0);
        Due.is("stories(0) of 14 and 3", x.stories(0), Due.FULL);
        Due.is("stories(-1) of 14 and 3", x.stories(-1), Due.FULL);
        Due.is("stories(4) of 14 and 3", x.stories(4), Due.OUTSIDE);
        x.never();
        x.event(1, 0, 0, 0, 0, 0);
        x.event(1, 0, 0, 0, 0, 0);
        Due.is("stories(0) of 16 and none", x.stories(0), 1);
        x.maybe(1, 0, 0, 0, 0, 0);
        Due.is("stories(0) of 16 and 1", x.stories(0), Due.FULL);
    }

    private static void promise33Order() {
        HillLand x = new HillLand();
        for (int i = 0; i < 3; i++) x.maybe(1, 0, 0, 0, 0, 0);
        int[][] due = {{}, {0}, {1}, {2}, {0, 1}, {0, 2}, {1, 0}, {1, 2}, {2, 0}, {2, 1}, {0, 1, 2}, {0, 2, 1}, {1, 0, 2}, {1, 2, 0},
            {2, 0, 1}, {2, 1, 0}};
        for (int i = 0; i < due.length; i++) told(x, -1, i, due[i]);
        noStory(x, -1, 16);
        noStory(x, -1, -1);
        noStory(x, -1, LEAST);
        noStory(x, -1, MOST);
        Due.is("story(-1, 15, -2)", x.story(-1, 15, -2), Due.NONE);
        Due.is("story(-1, 15, least)", x.story(-1, 15, LEAST), Due.NONE);
        Due.is("story(-1, 15, most)", x.story(-1, 15, MOST), Due.NONE);
    }

    private static void promise33OrderOfFour() {
        HillLand x = new HillLand();
        for (int i = 0; i < 4; i++) x.maybe(1, 0, 0, 0, 0, 0);
        int i = 0;
        for (int length = 0; length <= 4; length++) {
            for (int figures = 0; figures < Math.pow(4, length); figures++) {
                int[] parts = new int[length];
                for (int j = 0; j < length; j++) parts[j] = figures / (int) Math.pow(4, length - 1 - j) % 4;
                if (java.util.Arrays.stream(parts).distinct().count() < length) continue;
                told(x, 0, i, parts);
                i++;
            }
        }
        Due.is("stories told", i, 65);
        noStory(x, 0, 65);
    }

    private static void promise33Refusals() {
        HillLand x = beds();
        for (int k : new int[] {-2, 4, LEAST, MOST}) Due.is("story(" + k + ", 0, -1)", x.story(k, 0, -1), Due.OUTSIDE);
        for (int i = 0; i < 14; i++) x.event(1, 0, 0, 0, 0, 0);
        Due.is("story(0, 0, -1) of 17", x.story(0, 0, -1), Due.FULL);
        Due.is("story(0, 99, 0) of 17", x.story(0, 99, 0), Due.FULL);
        Due.is("story(4, 0, -1) of 17", x.story(4, 0, -1), Due.OUTSIDE);
    }

    private static void next(HillLand x, int k, int column, int unlike, int greatest) {
        Due.is("next(" + k + ", 0)", x.next(k, 0), column);
        Due.is("next(" + k + ", 1)", x.next(k, 1), unlike);
        Due.is("next(" + k + ", 2)", x.next(k, 2), greatest);
    }

    private static void promise34MostUnlike() {
        HillLand x = new HillLand();
        next(x, -1, 0, 1, 1);
        x.maybe(0, 1, 1, 0, 0, 0);
        next(x, -1, 0, 2, 1);
        x.maybe(3, 0, 7, 1, 0, 0);
        // at steps below 7 the break changes nothing; at 7 only the orders of both are alike
        next(x, -1, 7, 4, 2);
        x.never();
        x.maybe(1, 0, 4, 0, 0, 0);
        next(x, -1, 8, 2, 1);
        x.maybe(1, 0, -4, 0, 0, 0);
        next(x, -1, 8, 3, 3);
    }

    private static void promise34LeastGreatest() {
        HillLand x = new HillLand();
        x.maybe(5, 1, 0, 0, 1, -1);
        x.maybe(5, 1, 0, 0, 0, -1);
        // at step 0 four of the five stories are alike, at step 1 three, and both have two contents
        next(x, -1, 1, 2, 3);
        x.never();
        x.maybe(5, 1, 0, 0, 0, -1);
        x.maybe(5, 1, 0, 0, 1, -1);
        next(x, -1, 1, 2, 3);
    }

    private static void promise34First() {
        HillLand x = new HillLand();
        x.maybe(5, 1, 1, 3, 5, -1);
        next(x, -1, 24, 2, 1);
        x.maybe(5, 2, 0, 6, 7, -1);
        // where both dykes cross: none, the one (alone or last) and the other
        next(x, -1, 30, 3, 2);
    }

    private static void promise34OnlyThoseThatFit() {
        HillLand x = new HillLand();
        x.maybe(5, 1, 1, 3, 5, -1);
        x.maybe(5, 2, 0, 6, 7, -1);
        x.sight(1, 7, 7, 15, -1, 0);
        x.sight(1, 0, 3, 1, -1, 0);
        next(x, 0, 30, 3, 2);
        next(x, 1, 24, 2, 1);
        next(x, 2, 0, 1, 1);
        next(x, -1, 0, 1, 1);
        x.forget();
        next(x, -1, 24, 2, 1);
    }

    private static void promise34Refusals() {
        HillLand x = beds();
        for (int k : new int[] {-2, 4, LEAST, MOST}) Due.is("next(" + k + ", 0)", x.next(k, 0), Due.OUTSIDE);
        for (int what : new int[] {-1, 3, LEAST, MOST}) {
            Due.is("next(0, " + what + ")", x.next(0, what), Due.OUTSIDE);
            Due.is("next(-1, " + what + ")", x.next(-1, what), Due.OUTSIDE);
        }
        Due.is("next(-1, 0) where none fits", x.next(-1, 0), Due.NOT);
        for (int i = 0; i < 14; i++) x.event(1, 0, 0, 0, 0, 0);
        Due.is("next(-1, 0) of 17", x.next(-1, 0), Due.FULL);
        Due.is("next(0, 2) of 17", x.next(0, 2), Due.FULL);
        Due.is("next(0, 3) of 17", x.next(0, 3), Due.OUTSIDE);
        Due.is("next(4, 0) of 17", x.next(4, 0), Due.OUTSIDE);
    }

    private static void promise35Take() {
        HillLand x = beds();
        x.event(1, 0, 0, 0, 0, 0);
        x.loose(0, true);
        Due.is("stories(1)", x.stories(1), 4);
        Due.is("take(1, 2)", x.take(1, 2), 4);
        Due.is("count(0)", x.count(0), 4);
        Due.is("count(4): what may be stays", x.count(4), 3);
        int[][] told = {{1, 0, 0, 0, 0, 0, 1}, {0, 1, 2, 0, 0, 0, 0}, {0, 2, 4, 0, 0, 0, 0}, {4, 3, 0, 0, 0, 0, 0}};
        for (int i = 0; i < 4; i++) {
            for (int what = 0; what <= 6; what++) Due.is("told(" + i + ", " + what + ")", x.told(i, what), told[i][what]);
        }
        Due.is("skin", x.skin(3, 3, 0), 2);
        Due.is("skin's bed", x.skin(3, 3, 1), 2);
        Due.is("amount(2, 0)", x.amount(2, 0), 64);
        // the tilt is loose yet: with 1 less, x from 1 on lies 1 lower and from 5 on 2, so the cut leaves more
        Due.is("amount(2, 2)", x.amount(2, 2), 8 * (1 + 4 * 2 + 3 * 3));
        Due.is("take(0, 0) of the empty story", x.take(0, 0), 4);
        Due.is("take(0, 15)", x.take(0, 15), 7);
        x.clear();
        x.never();
        int[][] mights = {{5, 9, 1, 2, 6, -3}, {3, 1, 7, -16, 2, 0}, {2, 1, -8, 5, 7, 0}, {1, 6, -5, 0, 0, 0}};
        for (int[] n : mights) x.maybe(n[0], n[1], n[2], n[3], n[4], n[5]);
        Due.is("take(0, 64)", x.take(0, 64), 4);
        for (int i = 0; i < 4; i++) {
            for (int what = 0; what <= 5; what++) Due.is("told(" + i + ", " + what + ")", x.told(i, what), mights[3 - i][what]);
        }
    }

    private static void promise35Refusals() {
        HillLand x = beds();
        for (int k : new int[] {-2, 4, LEAST, MOST}) Due.is("take(" + k + ", 0)", x.take(k, 0), Due.OUTSIDE);
        for (int i : new int[] {-1, 16, LEAST, MOST}) Due.is("take(0, " + i + ")", x.take(0, i), Due.NOT);
        Due.is("take(1, 4)", x.take(1, 4), Due.NOT);
        Due.is("take(-1, 0)", x.take(-1, 0), Due.NOT);
        Due.is("count(0)", x.count(0), 0);
        for (int i = 0; i < 14; i++) x.event(1, 0, 0, 0, 0, 0);
        Due.is("take(0, 0) of 17", x.take(0, 0), Due.FULL);
        Due.is("take(0, 99) of 17", x.take(0, 99), Due.FULL);
        Due.is("take(4, 0) of 17", x.take(4, 0), Due.OUTSIDE);
        Due.is("count(0)", x.count(0), 14);
        x.undo();
        Due.is("take(0, 15) of 16", x.take(0, 15), 16);
    }
}
