/** Section 1 and promises 12 to 17: what befalls the land, and how it is looked at. */
public final class LandTest {
    public static void main(String[] args) {
        lay();
        tilt();
        fold();
        breaks();
        breaksThatLean();
        cut();
        dyke();
        outOfTheLand();
        promise12At();
        promise13Skin();
        promise14Top();
        promise15Was();
        promise16Amount();
        promise16Ends();
        promise16EndsWithinBounds();
        promise16Large();
        promise17Youth();
        Due.end();
    }

    /** The beds of a column from one height up, as a text: '.' is air, 'R' the root, else a letter from 'a' on. */
    private static void column(HillLand x, int column, int from, String beds) {
        for (int i = 0; i < beds.length(); i++) {
            char sign = beds.charAt(i);
            int want = sign == '.' ? Due.NONE : sign == 'R' ? 15 : sign - 'a';
            Due.is("at column " + column + " height " + (from + i), x.at(column % 8, column / 8, from + i), want);
        }
    }

    private static void skins(HillLand x, int axis, int... heights) {
        for (int n = 0; n < 64; n++) {
            Due.is("skin of column " + n, x.skin(n % 8, n / 8, 0), heights[axis == 0 ? n % 8 : n / 8]);
        }
    }

    private static void lay() {
        HillLand x = new HillLand();
        x.event(0, 0, 1, 0, 0, 0);
        x.event(0, 3, 8, 0, 0, 0);
        for (int n = 0; n < 64; n++) column(x, n, -2, "RRadddddddd..");
        for (int i = 0; i < 3; i++) x.event(0, 1, 8, 0, 0, 0);
        x.event(0, 2, 6, 0, 0, 0);
        column(x, 63, 31, "bbcccccc.");
        x.event(0, 4, 8, 0, 0, 0);
        column(x, 63, 31, "bbcccccce");
        x.event(0, 5, 8, 0, 0, 0);
        column(x, 63, 31, "bbcccccce");
        Due.is("what is above 39 is lost", x.amount(5, 0), 0);
        x.clear();
        for (int i = 0; i < 2; i++) x.event(4, -30, 8, 8, 0, 0);
        x.event(1, -8, -8, 0, 0, 0);
        x.event(4, -30, -8, -8, 0, 0);
        Due.is("a column of air", x.skin(7, 7, 0), -41);
        x.event(0, 6, 2, 0, 0, 0);
        column(x, 63, -40, "gg...");
        column(x, 0, -32, "RRgg.");
    }

    private static void tilt() {
        HillLand x = new HillLand();
        x.event(1, 3, 0, 0, 0, 0);
        skins(x, 0, -1, -1, 0, 1, 2, 2, 3, 4);
        x.clear();
        x.event(1, -3, 0, 0, 0, 0);
        skins(x, 0, -1, -2, -3, -4, -4, -5, -6, -7);
        x.clear();
        x.event(1, 0, -1, 0, 0, 0);
        skins(x, 1, -1, -2, -2, -2, -2, -3, -3, -3);
        x.clear();
        x.event(1, 5, -7, 0, 0, 0);
        Due.is("skin(6, 3)", x.skin(6, 3, 0), 1);
        Due.is("skin(3, 6)", x.skin(3, 6, 0), -1 - 7);
        x.clear();
        x.event(0, 1, 2, 0, 0, 0);
        x.event(1, 8, 8, 0, 0, 0);
        column(x, 63, 27, "Rbb.");
        Due.is("root comes from below", x.at(7, 7, -40), 15);
    }

    private static void fold() {
        HillLand x = new HillLand();
        x.event(2, 0, 3, 4, 1, 0);
        skins(x, 0, 0, 2, 0, -1, 0, 2, 0, -1);
        x.clear();
        x.event(2, 1, -3, 5, 0, 0);
        skins(x, 1, -1, -3, -4, -4, -3, -1, -3, -4);
        x.clear();
        x.event(2, 0, 8, 8, 0, 0);
        skins(x, 0, -1, 3, 7, 11, 15, 11, 7, 3);
        x.clear();
        x.event(2, 1, -1, 2, 7, 0);
        skins(x, 1, -2, -1, -2, -1, -2, -1, -2, -1);
        x.clear();
        x.event(2, 0, 8, 3, 7, 0);
        skins(x, 0, 3, 3, -1, 3, 3, -1, 3, 3);
    }

    private static void breaks() {
        HillLand x = new HillLand();
        x.event(0, 1, 2, 0, 0, 0);
        x.event(3, 0, 4, -5, 0, 0);
        skins(x, 0, 1, 1, 1, 1, -4, -4, -4, -4);
        column(x, 4, -6, "Rbb.");
        x.undo();
        x.event(3, 1, 7, 16, 0, 0);
        skins(x, 1, 1, 1, 1, 1, 1, 1, 1, 17);
        x.undo();
        x.event(3, 1, 0, 3, 0, 0);
        skins(x, 1, 4, 4, 4, 4, 4, 4, 4, 4);
    }

    private static void breaksThatLean() {
        HillLand x = new HillLand();
        x.event(0, 1, 3, 0, 0, 0);
        x.event(3, 0, 1, 2, 1, 0);
        // step 0: 0 and h is 4 or more from 4 up, where all was air, and 4 and 5 take 2 and 3
        column(x, 0, -1, "Rbbb.b.");
        // step 1: beyond from 0 up; 0 and 1 take -2 and -1
        column(x, 1, -2, "RRRRbbb.");
        // step 2: beyond from -4 up
        column(x, 2, -6, "RRRRRRRRbbb.");
        x.undo();
        x.event(3, 1, 1, -2, -2, 0);
        // step 0: -2 h is 4 or more from -2 down; -2 takes 0, -3 takes -1
        column(x, 0, -5, "RRRbRbbb.");
        // step 1: beyond from 0 down; 0 takes 2, -1 takes 1, -2 takes 0
        column(x, 8, -4, "RRbbbbb.");
        // step 2: 8 less 2 h is 4 or more from 2 down
        column(x, 16, -4, "RRbbb..");
        x.undo();
        x.event(3, 0, 0, 1, 2, 0);
        // step 1: 4 and 2 h is 0 or more from -2 up
        column(x, 1, -4, "RRRRRbbb.");
        x.event(3, 0, 7, -1, -1, 0);
        // step 7: beyond from 0 down; 0 takes 1, which has the bed now
        column(x, 7, -3, "RRRbbbb.");
        x.clear();
        x.event(0, 1, 3, 0, 0, 0);
        x.event(3, 0, 0, 4, -1, 0);
        // step 0: beyond from 0 down: 0 takes -4; what comes from below is root
        column(x, 0, -3, "RRRRbb.");
        column(x, 0, -40, "RRRRRR");
    }

    private static void cut() {
        HillLand x = new HillLand();
        x.event(0, 1, 8, 0, 0, 0);
        x.event(4, 3, 0, 0, 0, 0);
        skins(x, 0, 2, 2, 2, 2, 2, 2, 2, 2);
        x.undo();
        x.event(4, 3, -3, 0, 0, 0);
        skins(x, 0, 2, 1, 0, -1, -1, -2, -3, -4);
        x.undo();
        x.event(4, 3, 0, 3, 0, 0);
        skins(x, 1, 2, 2, 3, 4, 5, 5, 6, 7);
        x.undo();
        x.event(4, 39, 8, 8, 0, 0);
        skins(x, 0, 7, 7, 7, 7, 7, 7, 7, 7);
        x.event(4, -30, -8, -8, 0, 0);
        Due.is("cut below the land", x.skin(7, 7, 0), -41);
        Due.is("cut to its lowest", x.skin(5, 0, 0), -41);
        Due.is("cut to a last one", x.skin(4, 0, 0), -39);
        x.clear();
        x.event(0, 1, 8, 0, 0, 0);
        x.event(4, 8, 0, 0, 0, 0);
        x.event(3, 0, 0, 8, -2, 0);
        x.event(4, 30, 0, 0, 0, 0);
        column(x, 1, 6, "bb.");
    }

    private static void dyke() {
        HillLand x = new HillLand();
        x.event(0, 1, 2, 0, 0, 0);
        x.event(5, 9, 0, 2, 4, 0);
        for (int n = 0; n < 64; n++) column(x, n, -2, n % 8 >= 2 && n % 8 <= 4 ? "jjjb." : "RRbb.");
        column(x, 3, -40, "jjj");
        x.undo();
        x.event(5, 9, 1, 7, 7, 39);
        for (int n = 0; n < 64; n++) column(x, n, -1, n >= 56 ? "jjj." : "Rbb.");
        x.undo();
        x.event(5, 9, 1, 0, 0, -40);
        column(x, 5, -40, "jR");
        column(x, 8, -40, "RR");
        x.clear();
        x.event(0, 4, 3, 0, 0, 0);
        x.event(3, 0, 0, -3, -1, 0);
        x.event(5, 2, 0, 0, 7, 5);
        column(x, 0, -2, "cc.cc.");
    }

    private static void outOfTheLand() {
        HillLand x = new HillLand();
        for (int i = 0; i < 3; i++) x.event(1, 8, 8, 0, 0, 0);
        Due.is("all is root", x.skin(7, 7, 0), 39);
        Due.is("all is root below", x.at(7, 7, -40), 15);
        for (int i = 0; i < 2; i++) x.event(1, -8, -8, 0, 0, 0);
        Due.is("air comes from above", x.skin(7, 7, 0), 39 - 56);
        x.event(1, -8, -8, 0, 0, 0);
        Due.is("all is air", x.skin(7, 7, 0), -41);
        Due.is("all is air below", x.at(7, 7, -40), Due.NONE);
        x.event(1, 1, 0, 0, 0, 0);
        Due.is("root comes again", x.skin(7, 7, 0), -40);
    }

    private static void promise12At() {
        HillLand x = new HillLand();
        x.event(5, 3, 1, 2, 2, -1);
        for (int y = 0; y < 8; y++) {
            for (int n = 0; n < 8; n++) Due.is("at(" + n + ", " + y + ", -1)", x.at(n, y, -1), y == 2 ? 3 : 15);
        }
        Due.is("at(0, 0, -40)", x.at(0, 0, -40), 15);
        Due.is("at(0, 0, 39)", x.at(0, 0, 39), Due.NONE);
        int[][] wrong = {{-1, 0, 0}, {8, 0, 0}, {0, -1, 0}, {0, 8, 0}, {0, 0, -41}, {0, 0, 40}, {Integer.MIN_VALUE, 0, 0},
            {0, Integer.MAX_VALUE, 0}, {0, 0, Integer.MAX_VALUE}, {0, 0, Integer.MIN_VALUE}};
        for (int[] n : wrong) Due.is("at(" + n[0] + ", " + n[1] + ", " + n[2] + ")", x.at(n[0], n[1], n[2]), Due.OUTSIDE);
    }

    private static void promise13Skin() {
        HillLand x = new HillLand();
        x.event(4, -30, -8, 0, 0, 0);
        x.event(5, 7, 0, 3, 3, 39);
        for (int n = 0; n < 64; n++) {
            int skin = Math.max(-41, -31 - 2 * (n % 8));
            Due.is("skin of column " + n, x.skin(n % 8, n / 8, 0), skin);
            Due.is("bed on column " + n, x.skin(n % 8, n / 8, 1), skin == -41 ? Due.NONE : n % 8 == 3 ? 7 : 15);
        }
        int[][] wrong = {{-1, 0, 0}, {8, 0, 0}, {0, -1, 0}, {0, 8, 0}, {0, 0, -1}, {0, 0, 2}};
        for (int[] n : wrong) Due.is("skin(" + n[0] + ", " + n[1] + ", " + n[2] + ")", x.skin(n[0], n[1], n[2]), Due.OUTSIDE);
    }

    private static void promise14Top() {
        HillLand x = new HillLand();
        x.event(0, 1, 2, 0, 0, 0);
        x.event(0, 2, 3, 0, 0, 0);
        x.event(0, 1, 1, 0, 0, 0);
        x.event(5, 4, 1, 6, 7, 2);
        Due.is("top(1, 3, 3, 0)", x.top(1, 3, 3, 0), 5);
        Due.is("top(1, 3, 3, 1)", x.top(1, 3, 3, 1), 3);
        Due.is("top(2, 3, 3, 0)", x.top(2, 3, 3, 0), 4);
        Due.is("top(2, 3, 6, 1)", x.top(2, 3, 6, 1), 2);
        Due.is("top(4, 3, 6, 0)", x.top(4, 3, 6, 0), 2);
        Due.is("top(4, 6, 3, 0)", x.top(4, 6, 3, 0), -41);
        Due.is("top(4, 6, 3, 1)", x.top(4, 6, 3, 1), 0);
        Due.is("top(15, 0, 0, 0)", x.top(15, 0, 0, 0), -1);
        Due.is("top(15, 0, 0, 1)", x.top(15, 0, 0, 1), 40);
        Due.is("top(15, 0, 7, 0)", x.top(15, 0, 7, 0), -41);
        x.clear();
        for (int i = 0; i < 4; i++) x.event(0, 1, 8, 0, 0, 0);
        x.event(0, 1, 7, 0, 0, 0);
        x.event(0, 2, 8, 0, 0, 0);
        x.event(5, 3, 0, 0, 0, -40);
        Due.is("top of the highest cell", x.top(2, 0, 0, 0), 39);
        Due.is("cells of the highest cell's bed", x.top(2, 0, 0, 1), 1);
        Due.is("top of the lowest cell", x.top(3, 0, 0, 0), -40);
        Due.is("cells of the lowest cell's bed", x.top(3, 0, 0, 1), 1);
        int[][] wrong = {{-1, 0, 0, 0}, {16, 0, 0, 0}, {0, -1, 0, 0}, {0, 8, 0, 0}, {0, 0, -1, 0}, {0, 0, 8, 0}, {0, 0, 0, -1}, {0, 0, 0, 2}};
        for (int[] n : wrong) Due.is("top with " + java.util.Arrays.toString(n), x.top(n[0], n[1], n[2], n[3]), Due.OUTSIDE);
    }

    private static void promise15Was() {
        HillLand x = new HillLand();
        x.event(0, 1, 1, 0, 0, 0);
        x.event(1, 4, 0, 0, 0, 0);
        x.event(4, 2, 0, 0, 0, 0);
        int[] at5 = {-1, -1, 1, -1}, at0 = {-1, 1, 15, 15};
        for (int k = 0; k <= 3; k++) {
            Due.is("was(" + k + ", 5, 2, 5)", x.was(k, 5, 2, 5), at5[k]);
            Due.is("was(" + k + ", 5, 2, 0)", x.was(k, 5, 2, 0), at0[k]);
        }
        Due.is("at is not changed", x.at(5, 2, 0), 15);
        int[][] wrong = {{-1, 0, 0, 0}, {4, 0, 0, 0}, {0, -1, 0, 0}, {0, 8, 0, 0}, {0, 0, -1, 0}, {0, 0, 8, 0}, {0, 0, 0, -41}, {0, 0, 0, 40}};
        for (int[] n : wrong) Due.is("was with " + java.util.Arrays.toString(n), x.was(n[0], n[1], n[2], n[3]), Due.OUTSIDE);
        x.undo();
        Due.is("was(3, 0, 0, 0) of two", x.was(3, 0, 0, 0), Due.OUTSIDE);
    }

    private static void promise16Amount() {
        HillLand x = new HillLand();
        x.event(0, 1, 3, 0, 0, 0);
        x.event(4, 2, 0, 0, 0, 0);
        x.event(5, 2, 0, 0, 0, 0);
        for (int what = 0; what <= 2; what++) {
            Due.is("amount(1, " + what + ")", x.amount(1, what), 56 * 2 + 8);
            Due.is("amount(2, " + what + ")", x.amount(2, what), 8 * 41);
            Due.is("amount(15, " + what + ")", x.amount(15, what), 56 * 40);
            Due.is("amount(3, " + what + ")", x.amount(3, what), 0);
        }
        Due.is("amount(-1, 0)", x.amount(-1, 0), Due.OUTSIDE);
        Due.is("amount(16, 0)", x.amount(16, 0), Due.OUTSIDE);
        Due.is("amount(0, -1)", x.amount(0, -1), Due.OUTSIDE);
        Due.is("amount(0, 3)", x.amount(0, 3), Due.OUTSIDE);
    }

    private static void ends(String events, int bed, int least, int greatest) {
        HillLand x = new HillLand();
        Due.feed(x, events.replace("*", ""));
        Due.is("read of " + events, x.read(), events.length() - events.replace(";", "").length());
        int i = 0;
        for (String event : events.split(";")) {
            x.loose(i, event.contains("*"));
            i++;
        }
        Due.is("least of " + bed + " by " + events, x.amount(bed, 1), least);
        Due.is("greatest of " + bed + " by " + events, x.amount(bed, 2), greatest);
    }

    /** A star tells which events are loose. */
    private static void promise16Ends() {
        ends("lay 1 4*;", 1, 3 * 64, 5 * 64);
        ends("lay 1 4;", 1, 4 * 64, 4 * 64);
        ends("lay 1 4*;lay 2 1;", 2, 64, 64);
        ends("lay 1 4*;lay 1 4*;", 1, 6 * 64, 10 * 64);
        ends("lay 1 4*;cut 3 0 0;", 1, 3 * 64, 3 * 64);
        ends("lay 1 4;cut 3 0 0*;", 1, 2 * 64, 4 * 64);
        ends("lay 1 4;cut 3 0 0*;", 15, 40 * 64, 40 * 64);
        ends("lay 1 4;dyke 2 x 0 0 1*;", 2, 8 * 41, 8 * 43);
        ends("lay 1 4;dyke 2 x 0 0 1*;", 1, 56 * 4 + 8, 56 * 4 + 24);
        // along y the root rises by 28 in 8 columns each; 1 more along x adds 4 in 8, 1 less takes 10 in 8
        ends("tilt 0 4*;", 15, 64 * 40 + 8 * 28 - 8 * 10, 64 * 40 + 8 * 28 + 8 * 4);
        ends("tilt 2 0*;", 15, 64 * 40 + 8 * 4, 64 * 40 + 8 * 18);
        ends("fold x 0 2 0*;", 15, 64 * 40 - 32, 64 * 40);
        ends("break y 7 3 0*;", 15, 64 * 40 + 16, 64 * 40 + 32);
        ends("lay 1 8;break x 0 -1 0*;cut 0 0 0;", 1, 0, 2 * 64);
    }

    private static void promise16EndsWithinBounds() {
        ends("lay 1 8*;", 1, 7 * 64, 8 * 64);
        ends("lay 1 1*;", 1, 64, 2 * 64);
        ends("cut -30 0 0*;", 15, 10 * 64, 11 * 64);
        ends("cut 39 0 0*;", 15, 40 * 64, 40 * 64);
        ends("break x 0 16 0*;", 15, 55 * 64, 56 * 64);
        ends("break x 0 -16 0*;", 15, 24 * 64, 25 * 64);
        ends("dyke 1 x 0 7 -40*;", 1, 64, 2 * 64);
        ends("fold x 8 2 0*;", 15, 64 * 40 + 32 * 3, 64 * 40 + 32 * 4);
        ends("fold x -8 2 0*;", 15, 64 * 40 - 32 * 4, 64 * 40 - 32 * 4);
    }

    private static void promise16Large() {
        HillLand x = new HillLand();
        for (int i = 0; i < 6; i++) x.event(0, 1, 2, 0, 0, 0);
        for (int i = 0; i < 4; i++) x.loose(i, true);
        Due.is("amount(1, 1) of 4 loose ones", x.amount(1, 1), 64 * 8);
        Due.is("amount(1, 2) of 4 loose ones", x.amount(1, 2), 64 * 16);
        x.loose(5, true);
        Due.is("amount(1, 1) of 5 loose ones", x.amount(1, 1), Due.LARGE);
        Due.is("amount(1, 2) of 5 loose ones", x.amount(1, 2), Due.LARGE);
        Due.is("amount(1, 0) of 5 loose ones", x.amount(1, 0), 64 * 12);
        Due.is("amount(16, 1) of 5 loose ones", x.amount(16, 1), Due.OUTSIDE);
        Due.is("amount(1, 3) of 5 loose ones", x.amount(1, 3), Due.OUTSIDE);
        x.loose(0, false);
        Due.is("amount(1, 1) of 4 again", x.amount(1, 1), 64 * 8);
        x.loose(1, false);
        Due.is("amount(1, 1) of 3", x.amount(1, 1), 64 * 9);
        Due.is("amount(1, 2) of 3", x.amount(1, 2), 64 * 15);
        x.loose(1, true);
        Due.is("amount(1, 2) of 4 again", x.amount(1, 2), 64 * 16);
        x.undo();
        Due.is("amount(1, 1) of 3", x.amount(1, 1), 64 * 7);
        Due.is("amount(1, 2) of 3", x.amount(1, 2), 64 * 13);
    }

    private static void promise17Youth() {
        HillLand x = new HillLand();
        Due.is("youth(0)", x.youth(0), Due.NONE);
        x.event(1, 3, 0, 0, 0, 0);
        x.event(0, 4, 1, 0, 0, 0);
        x.event(5, 3, 0, 0, 0, -40);
        x.event(0, 3, 1, 0, 0, 0);
        x.event(5, 4, 0, 0, 0, -40);
        x.event(4, 1, 0, 0, 0, 0);
        int[] due = {-1, -1, -1, 2, 1, -1};
        for (int bed = 0; bed < due.length; bed++) Due.is("youth(" + bed + ")", x.youth(bed), due[bed]);
        Due.is("youth(14)", x.youth(14), Due.NONE);
        Due.is("youth(15)", x.youth(15), Due.OUTSIDE);
        Due.is("youth(-1)", x.youth(-1), Due.OUTSIDE);
        Due.is("youth(most)", x.youth(Integer.MAX_VALUE), Due.OUTSIDE);
        x.swap(2);
        Due.is("youth(3) after a swap", x.youth(3), 2);
        x.swap(1);
        Due.is("youth(4) after a swap", x.youth(4), 2);
    }
}
