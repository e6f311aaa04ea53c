/** Promises 9 to 11: the text. */
public final class TextTest {
    private static final int CANNOT = -11, NUMBER = -12, SEVENTEENTH = -13;

    public static void main(String[] args) {
        promise9Feed();
        promise9Full();
        promise10AllKinds();
        promise10Blanks();
        promise10Numbers();
        promise10CannotStand();
        promise10BadNumbers();
        promise10Bounds();
        promise10Seventeenth();
        promise10ChangesNothingWithFault();
        promise10NoneLoose();
        promise11Fault();
        Due.end();
    }

    private static void promise9Feed() {
        HillLand x = new HillLand();
        Due.is("feed(0, 0)", x.feed(0, 0), Due.OUTSIDE);
        Due.is("feed(9, 0)", x.feed(9, 0), Due.OUTSIDE);
        Due.is("feed(-1, 0)", x.feed(-1, 0), Due.OUTSIDE);
        Due.is("feed(least, 0)", x.feed(Integer.MIN_VALUE, 0), Due.OUTSIDE);
        Due.is("count(6)", x.count(6), 0);
        // 'l' 'a' 'y' ' ' '4' ' ' '2' ';', the last three of a long whose upper bytes are not taken
        Due.is("feed(4)", x.feed(4, 0x6c617920L), 4);
        Due.is("feed(1)", x.feed(1, -256L | '4'), 5);
        Due.is("feed(3)", x.feed(3, 0x7fffffffff20323bL), 8);
        Due.is("read()", x.read(), 1);
        Due.is("told(0, 1)", x.told(0, 1), 4);
        Due.is("told(0, 2)", x.told(0, 2), 2);
        Due.is("feed(8) all at once", x.feed(8, 0x6c61792037203b3bL), 8);
        Due.is("read()", x.read(), CANNOT);
        Due.is("fault()", x.fault(), 6);
        Due.is("feed of a byte above 127", x.feed(1, -1L), 1);
        Due.is("read()", x.read(), CANNOT);
        Due.is("fault()", x.fault(), 0);
    }

    private static void promise9Full() {
        HillLand x = new HillLand();
        for (int i = 1; i <= 37; i++) Due.is("feed " + i, x.feed(8, 0x2020202020202020L), 8 * i);
        Due.is("feed(5) onto 296", x.feed(5, 0), Due.FULL);
        Due.is("feed(8) onto 296", x.feed(8, 0), Due.FULL);
        Due.is("feed(9) onto 296", x.feed(9, 0), Due.OUTSIDE);
        Due.is("count(6)", x.count(6), 296);
        Due.is("feed(4) onto 296", x.feed(4, 0x20202020L), 300);
        Due.is("feed(1) onto 300", x.feed(1, 0), Due.FULL);
        Due.is("read() of blanks", x.read(), 0);
        Due.is("count(6)", x.count(6), 0);
        Due.is("feed(1) then", x.feed(1, 'l'), 1);
    }

    private static void promise10AllKinds() {
        HillLand x = new HillLand();
        Due.feed(x, "lay 14 8;tilt -8 8;fold x -8 2 7;fold y 8 8 0;break x 7 -16 -2;break y 0 16 2;cut -30 -8 8;cut 39 8 -8;dyke 14 y 0 7 -40;dyke 0 x 7 7 39;");
        Due.is("read()", x.read(), 10);
        Due.is("fault()", x.fault(), Due.NONE);
        int[][] told = {{0, 14, 8}, {1, -8, 8}, {2, 0, -8, 2, 7}, {2, 1, 8, 8, 0}, {3, 0, 7, -16, -2}, {3, 1, 0, 16, 2},
            {4, -30, -8, 8}, {4, 39, 8, -8}, {5, 14, 1, 0, 7, -40}, {5, 0, 0, 7, 7, 39}};
        for (int i = 0; i < told.length; i++) {
            for (int what = 0; what <= 6; what++) {
                Due.is("told(" + i + ", " + what + ")", x.told(i, what), what < told[i].length ? told[i][what] : 0);
            }
        }
        Due.feed(x, "lay 2 3;");
        Due.is("read() of one", x.read(), 1);
        Due.is("events are those of the text alone", x.count(0), 1);
        Due.is("the land is that of the text", x.skin(5, 5, 0), 2);
    }

    private static void promise10Blanks() {
        Due.reads("", 0, Due.NONE);
        Due.reads("    ", 0, Due.NONE);
        Due.reads("  lay  1   2  ;  ", 1, Due.NONE);
        Due.reads("lay1 2;", 1, Due.NONE);
        Due.reads("lay 1 2;lay 1 2;", 2, Due.NONE);
        Due.reads("tilt-1-2;", 1, Due.NONE);
        Due.reads("tilt 1-2;", 1, Due.NONE);
        Due.reads("fold x1 2 3;", 1, Due.NONE);
        Due.reads("fold y-1 2 3;", 1, Due.NONE);
        Due.reads("dyke 3x0 1-4;", 1, Due.NONE);
        Due.reads("dyke 12y0 1 4;", 1, Due.NONE);
        Due.reads("foldx 1 2 3;", CANNOT, 0);
        Due.reads("la y 1 2;", CANNOT, 0);
        Due.reads("lay 1 - 2;", CANNOT, 7);
        Due.reads("tilt 1 - 2;", CANNOT, 8);
        Due.reads("lay 12;", CANNOT, 6);
        Due.reads("lay\t1 2;", CANNOT, 3);
        Due.reads("lay 1\n2;", CANNOT, 5);
    }

    private static void promise10Numbers() {
        HillLand x = new HillLand();
        Due.feed(x, "tilt -0 00;tilt -08 07;");
        Due.is("read()", x.read(), 2);
        Due.is("told(0, 1)", x.told(0, 1), 0);
        Due.is("told(0, 2)", x.told(0, 2), 0);
        Due.is("told(1, 1)", x.told(1, 1), -8);
        Due.is("told(1, 2)", x.told(1, 2), 7);
    }

    private static void promise10CannotStand() {
        Due.reads(";", CANNOT, 0);
        Due.reads("lay 1 2;;", CANNOT, 8);
        Due.reads("lay 1 2", CANNOT, 7);
        Due.reads("lay 1 2 ", CANNOT, 8);
        Due.reads("lay 1", CANNOT, 5);
        Due.reads("lay", CANNOT, 3);
        Due.reads("lay 1 -", CANNOT, 7);
        Due.reads("la", CANNOT, 0);
        Due.reads("  la", CANNOT, 2);
        Due.reads("lays 1 2;", CANNOT, 0);
        Due.reads("x 1 2;", CANNOT, 0);
        Due.reads("Lay 1 2;", CANNOT, 0);
        Due.reads("laya 1 2;", CANNOT, 0);
        Due.reads("layz 1 2;", CANNOT, 0);
        Due.reads("lay` 1 2;", CANNOT, 3);
        Due.reads("lay{ 1 2;", CANNOT, 3);
        Due.reads("lay 1:2;", CANNOT, 5);
        Due.reads("lay 1/2;", CANNOT, 5);
        Due.reads("lay 1 /;", CANNOT, 6);
        Due.reads("lay 1 :;", CANNOT, 6);
        Due.reads("layX 1 2;", CANNOT, 3);
        Due.reads("4 lay 1 2;", CANNOT, 0);
        Due.reads("-", CANNOT, 0);
        Due.reads("lay lay 1 2;", CANNOT, 4);
        Due.reads("lay x 1;", CANNOT, 4);
        Due.reads("lay 1 2 lay 1 2;", CANNOT, 8);
        Due.reads("lay 1 2lay 1 2;", CANNOT, 7);
        Due.reads("lay 1 2 3;", CANNOT, 8);
        Due.reads("lay 1 2 345;", CANNOT, 8);
        Due.reads("lay 1 2-3;", CANNOT, 7);
        Due.reads("lay 1 --2;", CANNOT, 7);
        Due.reads("tilt 1 -;", CANNOT, 8);
        Due.reads("tilt 1-x;", CANNOT, 7);
        Due.reads("lay 1,2;", CANNOT, 5);
        Due.reads("fold 0 1 2 3;", CANNOT, 5);
        Due.reads("fold;", CANNOT, 4);
        Due.reads("fold xx 1 2 3;", CANNOT, 5);
        Due.reads("fold xy 1 2 3;", CANNOT, 5);
        Due.reads("fold x y 1 2 3;", CANNOT, 7);
        Due.reads("break z 1 2 1;", CANNOT, 6);
        Due.reads("break -1;", CANNOT, 6);
        Due.reads("dyke x 1 2 3 4;", CANNOT, 5);
        Due.reads("dyke 1 2 3 4;", CANNOT, 7);
        Due.reads("dyke 1 xlay 3 4;", CANNOT, 7);
        Due.reads("lay 1 2; cut 1 1;", CANNOT, 16);
        Due.reads("lay 1 2;\u00e4", CANNOT, 8);
        Due.reads("lay 1 2;\u0000", CANNOT, 8);
    }

    private static void promise10BadNumbers() {
        Due.reads("lay 123 2;", NUMBER, 4);
        Due.reads("lay 001 2;", NUMBER, 4);
        Due.reads("lay 1 0002", NUMBER, 6);
        Due.reads("tilt -001 1;", NUMBER, 5);
        Due.reads("tilt 1-100x", NUMBER, 6);
        Due.reads("lay 99999999999999999999 2;", NUMBER, 4);
        Due.reads("tilt 4294967296 1;", NUMBER, 5);
        Due.reads("lay 15x", NUMBER, 4);
        Due.reads("lay 15", NUMBER, 4);
        Due.reads("dyke 1 y 5 4 0;", NUMBER, 11);
        Due.reads("dyke 1 y 5 5 0;", 1, Due.NONE);
        Due.reads("dyke 1 y 8 4 0;", NUMBER, 9);
        Due.reads("dyke 1 y 5-1 0;", NUMBER, 10);
    }

    /** Each bound of each number of each kind, met and passed by one. */
    private static void promise10Bounds() {
        String[] good = {"lay 3 4;", "tilt 1 1;", "fold x 1 4 1;", "break y 3 1 0;", "cut 2 1 1;", "dyke 3 x 0 7 0;"};
        int[][][] bounds = {
            {{0, 14}, {1, 8}},
            {{-8, 8}, {-8, 8}},
            {{}, {-8, 8}, {2, 8}, {0, 7}},
            {{}, {0, 7}, {-16, 16}, {-2, 2}},
            {{-30, 39}, {-8, 8}, {-8, 8}},
            {{0, 14}, {}, {0, 7}, {0, 7}, {-40, 39}}};
        for (int kind = 0; kind < 6; kind++) {
            for (int place = 0; place < bounds[kind].length; place++) {
                if (bounds[kind][place].length == 0) continue;
                String[] parts = good[kind].replace(";", "").split(" ");
                for (int i = 0; i < 4; i++) {
                    int value = bounds[kind][place][i % 2] + (i < 2 ? 0 : i == 2 ? -1 : 1);
                    parts[place + 1] = "" + value;
                    String ahead = String.join(" ", java.util.Arrays.copyOf(parts, place + 1)) + " ";
                    Due.reads(String.join(" ", parts) + ";", i < 2 ? 1 : NUMBER, i < 2 ? Due.NONE : ahead.length());
                }
            }
        }
    }

    private static void promise10Seventeenth() {
        String sixteen = "lay 1 1;".repeat(16);
        Due.reads(sixteen, 16, Due.NONE);
        Due.reads(sixteen + "   ", 16, Due.NONE);
        Due.reads(sixteen + "lay 1 1;", SEVENTEENTH, 128);
        Due.reads(sixteen + "  tilt", SEVENTEENTH, 130);
        Due.reads(sixteen + "dyke 99 99;", SEVENTEENTH, 128);
        Due.reads(sixteen + "lays", CANNOT, 128);
        Due.reads(sixteen + ";", CANNOT, 128);
        Due.reads(sixteen + "1", CANNOT, 128);
        Due.reads(sixteen + "x", CANNOT, 128);
        Due.reads("lay 1 1;".repeat(15) + "lay 1 9;lay", NUMBER, 126);
    }

    private static void promise10ChangesNothingWithFault() {
        HillLand x = new HillLand();
        x.event(0, 1, 2, 0, 0, 0);
        x.loose(0, true);
        Due.feed(x, "lay 2 3; lay 3 9;");
        Due.is("read()", x.read(), NUMBER);
        Due.is("count(0)", x.count(0), 1);
        Due.is("count(6)", x.count(6), 0);
        Due.is("told(0, 1)", x.told(0, 1), 1);
        Due.is("told(0, 6)", x.told(0, 6), 1);
        Due.is("skin", x.skin(0, 0, 0), 1);
        Due.is("read() of nothing", x.read(), 0);
        Due.is("skin then", x.skin(0, 0, 0), -1);
    }

    private static void promise10NoneLoose() {
        HillLand x = new HillLand();
        x.event(0, 1, 2, 0, 0, 0);
        x.loose(0, true);
        Due.feed(x, "lay 1 2;");
        Due.is("read()", x.read(), 1);
        Due.is("told(0, 6)", x.told(0, 6), 0);
        Due.is("count(1)", x.count(1), 0);
        Due.is("amount(1, 2)", x.amount(1, 2), 128);
    }

    private static void promise11Fault() {
        HillLand x = new HillLand();
        Due.is("fault() ahead of all", x.fault(), Due.NONE);
        Due.feed(x, "lay 1 ");
        Due.is("fault() ahead of a read", x.fault(), Due.NONE);
        Due.is("read()", x.read(), CANNOT);
        Due.is("fault()", x.fault(), 6);
        Due.feed(x, "lay 1 1;");
        x.clear();
        Due.is("fault() is that of the latest read", x.fault(), 6);
        Due.is("read()", x.read(), 1);
        Due.is("fault()", x.fault(), Due.NONE);
    }
}
