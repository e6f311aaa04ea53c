/** The edges that the document names, where the numbers and the land are at their least and greatest; due by hand. */
public final class EdgesTest {
    public static void main(String[] args) {
        sixteenEvents();
        allCountsAtTheirGreatest();
        textOfThreeHundred();
        textBeyondThreeHundred();
        landAllRoot();
        landAllAir();
        breaksAtTheirGreatest();
        breaksUpToTheTop();
        breaksOfOneCell();
        tiltsAtTheirGreatest();
        cutsAtTheEnds();
        dykesAtTheEnds();
        crossingsAtTheEnds();
        sightsAtTheEnds();
        dipsAtTheirGreatest();
        endsAtBounds();
        endsOfFewer();
        looseFourAndFive();
        versionsFirstAndLast();
        claimsAtTheirGreatest();
        drawingsAtTheEnds();
        storiesUpToSixteen();
        holesFirstAndLast();
        Due.end();
    }

    private static HillLand told(String text) {
        HillLand x = new HillLand();
        Due.feed(x, text);
        Due.is("read of " + text, x.read(), text.length() - text.replace(";", "").length());
        return x;
    }

    private static void sixteenEvents() {
        HillLand x = new HillLand();
        for (int i = 0; i < 15; i++) Due.is("event " + i, x.event(0, i, 1, 0, 0, 0), i);
        Due.is("told(15, 0) of 15", x.told(15, 0), Due.UNKNOWN);
        Due.is("loose(15, true) of 15", x.loose(15, true), Due.UNKNOWN);
        Due.is("swap(13) of 15", x.swap(13), 64);
        Due.is("swap(14) of 15", x.swap(14), Due.UNKNOWN);
        Due.is("was(15, ..) of 15", x.was(15, 0, 0, 14), 13);
        Due.is("was(16, ..) of 15", x.was(16, 0, 0, 14), Due.OUTSIDE);
        Due.is("the sixteenth", x.event(5, 14, 0, 7, 7, -40), 15);
        Due.is("told(15, 5)", x.told(15, 5), -40);
        Due.is("told(16, 5)", x.told(16, 5), Due.UNKNOWN);
        Due.is("loose(15, true)", x.loose(15, true), 0);
        Due.is("loose(16, true)", x.loose(16, true), Due.UNKNOWN);
        Due.is("was(16, 7, 7, -40)", x.was(16, 7, 7, -40), 14);
        Due.is("was(15, 7, 7, -40)", x.was(15, 7, 7, -40), 15);
        Due.is("was(17, 7, 7, -40)", x.was(17, 7, 7, -40), Due.OUTSIDE);
        Due.is("was(0, 7, 7, 0)", x.was(0, 7, 7, 0), Due.NONE);
        Due.is("swap(14)", x.swap(14), 0);
        Due.is("swap(15)", x.swap(15), Due.UNKNOWN);
        Due.is("looseness of 14", x.told(14, 6), 1);
        Due.is("looseness of 15", x.told(15, 6), 0);
        Due.is("youth(0), the first event's", x.youth(0), 0);
        Due.is("youth(13), the last event's", x.youth(13), 15);
        Due.is("youth(14)", x.youth(14), 13);
        x.swap(13);
        Due.is("youth(14), laid only by the dyke and a later bed", x.youth(14), 13);
        Due.is("clear()", x.clear(), 16);
    }

    private static void allCountsAtTheirGreatest() {
        HillLand x = new HillLand();
        for (int i = 0; i < 16; i++) x.event(0, i % 2, 1, 0, 0, 0);
        for (int i = 0; i < 16; i++) x.loose(i, true);
        for (int i = 0; i < 30; i++) x.sight(0, 0, 0, Due.NONE, 0, 0);
        for (int i = 0; i < 24; i++) x.claim(0, 1, 1);
        for (int i = 0; i < 4; i++) x.maybe(1, 0, 0, 0, 0, 0);
        for (int v = 0; v < 4; v++) x.keep(v);
        for (int i = 0; i < 300; i++) x.feed(1, 32);
        // bed 1 is younger than bed 0, which lies on it seven times in each column
        int[] due = {16, 16, 30, 24, 4, 4, 300, 7 * 64, 30};
        for (int what = 0; what <= 8; what++) Due.is("count(" + what + ")", x.count(what), due[what]);
        Due.is("unmet(-1, 29)", x.unmet(-1, 29), 29);
        Due.is("unmet(-1, 30)", x.unmet(-1, 30), Due.NONE);
        Due.is("unmet(29, 29)", x.unmet(29, 29), Due.NONE);
        Due.is("unmet(30, 29)", x.unmet(30, 29), 29);
        Due.is("unmet(31, 0)", x.unmet(31, 0), Due.OUTSIDE);
    }

    private static void textOfThreeHundred() {
        String start = "lay 1 1;".repeat(15), blanks = " ".repeat(300 - 120 - 8);
        Due.reads(start + blanks + "lay 14 8", -11, 300);
        Due.reads(start + blanks + "lay 4 8;", 16, Due.NONE);
        Due.reads(start + blanks + "lay 4 9;", -12, 298);
        Due.reads(start + blanks + "lay 14 -", -11, 300);
        Due.reads(start + blanks + " lay 148", -12, 297);
        Due.reads(start + blanks + "     lay", -11, 300);
        Due.reads(start + "lay 1 1;" + blanks.substring(3) + "lay", -13, 297);
        Due.reads(start + blanks + "       -", -11, 299);
        Due.reads(" ".repeat(300), 0, Due.NONE);
    }

    private static void textBeyondThreeHundred() {
        for (int n = 1; n <= 8; n++) {
            HillLand x = new HillLand();
            Due.feed(x, " ".repeat(300 - n));
            for (int m = 8; m > n; m--) Due.is("feed(" + m + ") onto " + (300 - n), x.feed(m, 0), Due.FULL);
            Due.is("count(6)", x.count(6), 300 - n);
            Due.is("feed(" + n + ") onto " + (300 - n), x.feed(n, 0x2020202020202020L), 300);
            Due.is("feed(1) onto 300", x.feed(1, 32), Due.FULL);
            Due.is("read(): no byte of those refused came", x.read(), 0);
        }
    }

    private static void landAllRoot() {
        HillLand x = told("break x 0 16 0;break x 0 16 0;break x 0 7 0;");
        Due.is("skin of 39 risen", x.skin(0, 0, 0), 38);
        x.undo();
        x.event(3, 1, 0, 8, 0, 0);
        Due.is("skin of 40 risen", x.skin(7, 0, 0), 39);
        Due.is("amount(15, 0)", x.amount(15, 0), 64 * 80);
        x.event(0, 3, 8, 0, 0, 0);
        Due.is("amount(3, 0) of what would be above 39", x.amount(3, 0), 0);
        x.event(4, 39, 0, 0, 0, 0);
        Due.is("skin below a cut at 39", x.skin(0, 7, 0), 38);
        x.event(0, 3, 8, 0, 0, 0);
        Due.is("amount(3, 0) of one cell each", x.amount(3, 0), 64);
        Due.is("skin's bed at 39", x.skin(7, 7, 1), 3);
        Due.is("top(3, 7, 7, 0)", x.top(3, 7, 7, 0), 39);
        x.event(1, 8, 8, 0, 0, 0);
        Due.is("column (0, 0) stays", x.top(3, 0, 0, 0), 39);
        Due.is("in column (1, 0) it is lost above", x.top(3, 1, 0, 0), -41);
        Due.is("amount(3, 0)", x.amount(3, 0), 1);
    }

    private static void landAllAir() {
        HillLand x = told("break x 0 -16 0;break y 0 -16 0;break x 0 -7 0;");
        Due.is("skin of 39 sunk", x.skin(0, 0, 0), -40);
        Due.is("amount(15, 0)", x.amount(15, 0), 64);
        x.event(3, 1, 0, -1, 0, 0);
        Due.is("skin of 40 sunk", x.skin(0, 0, 0), -41);
        Due.is("skin's bed", x.skin(0, 0, 1), Due.NONE);
        Due.is("top(15, 0, 0, 0)", x.top(15, 0, 0, 0), -41);
        Due.is("top(15, 0, 0, 1)", x.top(15, 0, 0, 1), 0);
        x.event(5, 4, 0, 0, 7, 39);
        Due.is("a dyke in air", x.amount(4, 0), 0);
        x.event(3, 0, 0, 0, 2, 0);
        Due.is("a throw of 0", x.skin(3, 3, 0), -41);
        x.event(0, 4, 1, 0, 0, 0);
        Due.is("laid from -40 on", x.at(6, 2, -40), 4);
        Due.is("and no higher", x.at(6, 2, -39), Due.NONE);
        x.event(0, 5, 8, 0, 0, 0);
        Due.is("skin", x.skin(6, 2, 0), -32);
        x.event(3, 0, 0, 1, 0, 0);
        Due.is("root comes from below", x.at(6, 2, -40), 15);
        Due.is("under what was lowest", x.at(6, 2, -39), 4);
    }

    /** Where a plane leans, what is beyond it takes from 16 below or above; 4 p or more is beyond. */
    private static void breaksAtTheirGreatest() {
        HillLand x = told("lay 1 8;break x 7 16 2;");
        // step 7: 28 and 2 h is 28 or more from 0 up; step 0: from 14 up
        Due.is("just beyond at step 7", x.at(7, 0, 0), 15);
        Due.is("the bed's least there", x.at(7, 0, 16), 1);
        Due.is("the bed's top there", x.top(1, 7, 0, 0), 23);
        Due.is("not beyond at step 7", x.at(7, 0, -1), 15);
        Due.is("at step 0 it is there twice", x.top(1, 0, 7, 1), 16);
        Due.is("below the plane at step 0", x.at(0, 7, 13), Due.NONE);
        Due.is("at the plane at step 0: from -2", x.at(0, 7, 14), 15);
        Due.is("above it: from 0", x.at(0, 7, 16), 1);
        x = told("lay 1 8;break y 0 -16 -2;");
        // step 7: 28 less 2 h is 0 or more from 14 down, and takes from 16 above
        Due.is("step 7: 14 takes 30", x.at(0, 7, 14), Due.NONE);
        Due.is("step 7: -9 takes 7", x.at(0, 7, -9), 1);
        Due.is("step 7: -8 takes 8", x.at(0, 7, -8), Due.NONE);
        Due.is("step 7: -16 takes 0", x.at(0, 7, -16), 1);
        Due.is("step 7: -17 takes -1", x.at(0, 7, -17), 15);
        Due.is("step 0: 0 takes 16", x.at(7, 0, 0), Due.NONE);
        Due.is("step 0: 1 is not beyond", x.at(7, 0, 1), 1);
        x = told("break x 7 16 0;break x 7 -16 0;");
        Due.is("there and back at step 7", x.skin(7, 3, 0), -1);
        Due.is("nothing at step 6", x.skin(6, 3, 0), -1);
        Due.is("nothing is lost but root for root", x.amount(15, 0), 64 * 40);
    }

    /** What is not beyond stays as it is, up to the highest cell and down to the lowest. */
    private static void breaksUpToTheTop() {
        String filled = "break x 0 16 0;break x 0 16 0;break x 0 8 0;";
        HillLand x = told(filled + "break y 5 -16 0;");
        Due.is("not beyond, all stays", x.top(15, 3, 4, 1), 80);
        Due.is("beyond, air comes from above", x.skin(3, 5, 0), 23);
        x = told(filled + "cut 38 0 0;lay 7 2;break y 5 1 0;");
        Due.is("not beyond, the highest stays", x.at(3, 4, 39), 7);
        Due.is("not beyond, the one below stays", x.top(7, 3, 4, 1), 2);
        Due.is("beyond, the highest is lost", x.top(7, 3, 5, 1), 1);
        x = told(filled + "lay 1 8;break x 0 -16 2;");
        // step 0: 2 h is 0 or more from 0 up, and 23 takes 39, 24 takes 40
        Due.is("the last that takes root", x.at(0, 0, 23), 15);
        Due.is("the first that takes air", x.at(0, 0, 24), Due.NONE);
        Due.is("the highest takes air", x.at(0, 0, 39), Due.NONE);
        x = told("dyke 3 x 0 7 -40;break x 0 1 -1;");
        // step 7: 28 less h is 0 or more from 28 down; the lowest takes what is below all
        Due.is("the lowest takes root", x.at(7, 0, -40), 15);
        Due.is("the one above takes the lowest", x.at(7, 0, -39), 3);
        x = told("dyke 3 x 0 7 -40;break x 7 1 -1;");
        // step 0: -h is 28 or more from -28 down
        Due.is("28 below is beyond", x.at(0, 0, -39), 3);
        Due.is("root comes in there", x.at(0, 0, -40), 15);
        x = told("break x 7 -16 -1;");
        Due.is("-28 takes -12", x.at(0, 0, -28), 15);
        x = told("cut -14 0 0;break x 7 -16 -1;");
        Due.is("-28 takes -12, which is air", x.at(0, 0, -28), Due.NONE);
        Due.is("-31 takes -15", x.at(0, 0, -31), 15);
        Due.is("-27 is not beyond", x.at(0, 0, -27), 15);
    }

    /** Of all that is beyond a leaning plane, but one cell takes what is in the land; or two do, or none. */
    private static void breaksOfOneCell() {
        String capped = "break x 0 16 0;break x 0 16 0;break x 0 8 0;cut 39 0 0;lay 7 1;";
        // step 0: h is 28 or more
        cells(told(capped + "break x 7 -10 1;"), 27, 15, 15, 7, Due.NONE);
        cells(told(capped + "break x 7 -11 1;"), 27, 15, 7, Due.NONE, Due.NONE);
        cells(told(capped + "break x 7 -12 1;"), 27, 15, Due.NONE, Due.NONE, Due.NONE);
        // step 0: -h is 28 or more
        cells(told("dyke 3 x 0 7 -40;break x 7 11 -1;"), -30, 15, 3, 15, 15);
        cells(told("dyke 3 x 0 7 -40;break x 7 12 -1;"), -30, 15, 15, 3, 15);
        cells(told("dyke 3 x 0 7 -40;break x 7 13 -1;"), -30, 15, 15, 15, 15);
    }

    /** What is in column (0, 0) from a height up. */
    private static void cells(HillLand x, int from, int... beds) {
        for (int i = 0; i < beds.length; i++) Due.is("at(0, 0, " + (from + i) + ")", x.at(0, 0, from + i), beds[i]);
    }

    private static void tiltsAtTheirGreatest() {
        HillLand x = told("tilt 8 8;");
        Due.is("up by 28", x.skin(7, 7, 0), 27);
        x = told("tilt -8 -8;");
        Due.is("down by 28", x.skin(7, 7, 0), -29);
        x = told("tilt -1 0;");
        Due.is("FLOOR of -1 / 4", x.skin(1, 0, 0), -2);
        Due.is("FLOOR of -4 / 4", x.skin(4, 0, 0), -2);
        Due.is("FLOOR of -5 / 4", x.skin(5, 0, 0), -3);
        x = told("fold x -1 2 7;");
        Due.is("FLOOR of -1 / 2", x.skin(0, 0, 0), -2);
        Due.is("none where nothing is left", x.skin(1, 0, 0), -1);
        x = told("fold y 8 8 7;");
        Due.is("step 5 and 7 by 8 leaves 4: up by 16", x.skin(0, 5, 0), 15);
        Due.is("step 1 and 7 by 8 leaves 0", x.skin(0, 1, 0), -1);
        Due.is("step 0 and 7 by 8 leaves 7, 8 less 7 is 1", x.skin(0, 0, 0), 3);
    }

    private static void cutsAtTheEnds() {
        HillLand x = told("cut -30 -8 -8;");
        Due.is("cut at -30", x.skin(0, 0, 0), -31);
        Due.is("cut at -38", x.skin(4, 0, 0), -39);
        Due.is("cut at -40", x.skin(5, 0, 0), -41);
        Due.is("cut at -58", x.skin(7, 7, 0), -41);
        x = told("break x 0 16 0;break x 0 16 0;break x 0 8 0;cut 39 8 8;");
        Due.is("cut at 39", x.skin(0, 0, 0), 38);
        Due.is("cut at 41", x.skin(1, 0, 0), 39);
        Due.is("cut at 67", x.skin(7, 7, 0), 39);
        x = told("cut 0 0 -1;");
        Due.is("cut at FLOOR of -1 / 4", x.skin(0, 1, 0), -2);
    }

    private static void dykesAtTheEnds() {
        HillLand x = told("dyke 0 x 0 0 -40;dyke 14 y 7 7 39;");
        Due.is("its one cell", x.amount(0, 0), 7);
        Due.is("top(0, 0, 6, 0)", x.top(0, 0, 6, 0), -40);
        Due.is("where both are the later one", x.at(0, 7, -40), 14);
        Due.is("all but air", x.amount(14, 0), 8 * 40);
        x = told("dyke 3 x 0 7 -1;");
        Due.is("all columns", x.amount(3, 0), 64 * 40);
    }

    private static void crossingsAtTheEnds() {
        HillLand x = told("dyke 3 x 0 0 -40;");
        Due.is("root on a dyke of one cell at the lowest", x.count(7), 8);
        x = told("break x 0 16 0;break x 0 16 0;break x 0 8 0;dyke 3 x 7 7 38;");
        Due.is("root on a dyke at the highest", x.count(7), 8);
        x.event(5, 3, 0, 7, 7, 39);
        Due.is("no root on it any more", x.count(7), 0);
        x = told("break x 0 -16 0;break x 0 -16 0;break x 0 -8 0;lay 2 1;");
        Due.is("a bed on nothing", x.count(7), 0);
    }

    private static void met(HillLand x, int want, int kind, int column, int b, int p, int q) {
        int i = x.sight(kind, column % 8, column / 8, b, p, q);
        Due.is("met of sight(" + kind + ", column " + column + ", " + b + ", " + p + ", " + q + ")", x.met(i), want);
        x.forget();
    }

    private static void sightsAtTheEnds() {
        HillLand x = told("break x 0 16 0;break x 0 16 0;break x 0 7 0;lay 14 8;dyke 0 y 0 0 -40;");
        met(x, 1, 0, 63, 14, 0, 0);
        met(x, 1, 1, 63, 14, 39, 0);
        met(x, 0, 1, 63, 14, 38, 0);
        met(x, 1, 2, 63, 14, 39, 39);
        met(x, 0, 2, 63, 14, -40, 38);
        met(x, 1, 4, 63, 14, 15, 0);
        met(x, 1, 1, 0, 0, -40, 0);
        met(x, 0, 1, 0, 0, -39, 0);
        met(x, 1, 2, 0, 0, -40, -40);
        met(x, 0, 2, 0, 0, -39, 39);
        met(x, 1, 4, 0, 15, 0, 0);
        met(x, 0, 4, 8, 15, 0, 0);
        x = told("break x 0 -16 0;break x 0 -16 0;break x 0 -7 0;");
        met(x, 1, 0, 0, 15, 0, 0);
        met(x, 1, 2, 0, 15, -40, -40);
        met(x, 0, 4, 0, 15, 15, 0);
        x.event(1, 0, -1, 0, 0, 0);
        met(x, 1, 0, 8, Due.NONE, 0, 0);
        met(x, 1, 1, 8, Due.NONE, -40, 0);
        met(x, 0, 2, 8, 15, -40, 39);
        met(x, 0, 3, 0, 15, 1, 0);
        met(x, 0, 3, 8, 15, 0, 0);
        met(x, 1, 3, 0, 15, 0, 0);
    }

    private static void dipsAtTheirGreatest() {
        HillLand x = told("break x 1 16 0;break x 1 16 0;break x 1 16 0;dyke 5 x 1 1 39;dyke 5 x 0 0 -40;");
        met(x, 1, 3, 0, 5, 0, 79);
        met(x, 0, 3, 0, 5, 0, 78);
        met(x, 0, 3, 0, 5, 0, -79);
        met(x, 0, 3, 1, 5, 0, -79);
        x = told("break y 0 16 0;break y 0 16 0;break y 0 16 0;dyke 5 y 6 6 39;dyke 5 y 7 7 -40;");
        met(x, 1, 3, 48, 5, 1, -79);
        met(x, 0, 3, 48, 5, 1, -78);
        Due.is("a dip from step 7", x.sight(3, 0, 7, 5, 1, -79), Due.OUTSIDE);
        Due.is("a dip from step 7 of the other axis", x.sight(3, 7, 6, 5, 1, -79), 0);
        Due.is("it is met", x.met(0), 1);
    }

    private static void ends(String text, int bed, int least, int greatest) {
        HillLand x = told(text);
        int last = x.count(0) - 1;
        x.loose(last, true);
        Due.is("least of " + bed + " by " + text, x.amount(bed, 1), least);
        Due.is("greatest of " + bed + " by " + text, x.amount(bed, 2), greatest);
        Due.is("told of " + bed + " by " + text, x.amount(bed, 0), told(text).amount(bed, 0));
    }

    /** The last event is loose, and one more or one less would be beyond its bounds. */
    private static void endsAtBounds() {
        // the root rises by FLOOR of 2 x, or of 7 x / 4, which is 0 1 3 5 7 8 10 12
        ends("tilt 8 0;", 15, 8 * (320 + 46), 8 * (320 + 56));
        // it sinks by 2 x, or by 7 x / 4 rounded up, which is 0 2 4 6 7 9 11 13
        ends("tilt -8 0;", 15, 8 * (320 - 56), 8 * (320 - 52));
        ends("fold y 8 2 0;", 15, 64 * 40 + 32 * 3, 64 * 40 + 32 * 4);
        ends("break x 7 16 0;", 15, 64 * 40 + 8 * 15, 64 * 40 + 8 * 16);
        ends("break x 7 -16 0;", 15, 64 * 40 - 8 * 16, 64 * 40 - 8 * 15);
        ends("lay 1 1;", 1, 64, 128);
        ends("lay 1 8;", 1, 64 * 7, 64 * 8);
        // all is root up to 39: a cut at 39 takes one each, at 38 two, and there is none at 40
        ends("break x 0 16 0;break x 0 16 0;break x 0 8 0;cut 39 0 0;", 15, 64 * 78, 64 * 79);
        ends("cut -30 0 0;", 15, 64 * 10, 64 * 11);
        ends("dyke 1 x 0 7 -40;", 1, 64, 128);
        ends("break x 0 16 0;break x 0 16 0;break x 0 8 0;dyke 1 x 0 7 39;", 1, 64 * 79, 64 * 80);
    }

    /** What was greatest and least for events that are no more is not so any more. */
    private static void endsOfFewer() {
        HillLand x = told("lay 0 4;lay 14 4;");
        x.loose(0, true);
        x.loose(1, true);
        Due.is("greatest of 0", x.amount(0, 2), 64 * 5);
        Due.is("greatest of 14", x.amount(14, 2), 64 * 5);
        Due.is("greatest of 15", x.amount(15, 2), 64 * 40);
        x.loose(0, false);
        Due.is("greatest of 0, not loose", x.amount(0, 2), 64 * 4);
        x.clear();
        Due.is("greatest of 0, cleared", x.amount(0, 2), 0);
        Due.is("greatest of 14, cleared", x.amount(14, 2), 0);
        x.event(4, -30, 0, 0, 0, 0);
        Due.is("least of 15, cut", x.amount(15, 1), 640);
        Due.is("greatest of 15, cut", x.amount(15, 2), 640);
    }

    private static void looseFourAndFive() {
        HillLand x = told("lay 1 2;lay 1 2;lay 1 2;lay 1 2;lay 1 2;");
        Due.is("of none", x.amount(1, 1), 640);
        for (int i = 0; i < 4; i++) {
            x.loose(i, true);
            Due.is("least of " + (i + 1), x.amount(1, 1), 640 - 64 * (i + 1));
            Due.is("greatest of " + (i + 1), x.amount(1, 2), 640 + 64 * (i + 1));
        }
        x.loose(4, true);
        Due.is("least of 5", x.amount(1, 1), Due.LARGE);
        Due.is("greatest of 5", x.amount(1, 2), Due.LARGE);
        Due.is("as told of 5", x.amount(1, 0), 640);
        Due.is("another bed's of 5", x.amount(9, 1), Due.LARGE);
    }

    private static void versionsFirstAndLast() {
        HillLand x = new HillLand();
        for (int i = 0; i < 5; i++) x.event(3, 0, 0, 16, 0, 0);
        Due.is("keep(3)", x.keep(3), 5);
        x.clear();
        Due.is("differ(3, 2) of new", x.differ(3, 2), 64 * 40);
        for (int i = 0; i < 5; i++) x.event(3, 1, 0, -16, 0, 0);
        Due.is("differ(3, 0)", x.differ(3, 0), 64);
        Due.is("differ(3, 1)", x.differ(3, 1), 0);
        Due.is("differ(3, 2)", x.differ(3, 2), 64 * 80);
        Due.is("differ(3, 3)", x.differ(3, 3), 0);
        x.clear();
        Due.is("keep(0) of none", x.keep(0), 0);
        // only column 63 is cut: at 27 less 28
        x.event(4, 27, -8, -8, 0, 0);
        Due.is("differ(0, 0)", x.differ(0, 0), 1);
        Due.is("differ(0, 1)", x.differ(0, 1), 63);
        Due.is("differ(0, 2)", x.differ(0, 2), 1);
        Due.is("differ(0, 3)", x.differ(0, 3), 0);
        x.clear();
        for (int i = 0; i < 16; i++) x.event(1, 0, 0, 0, 0, 0);
        x.keep(2);
        Due.is("sixteen like events", x.differ(2, 3), 16);
        Due.is("none of them in a version of none", x.differ(0, 3), 0);
        Due.is("back(0) to none", x.back(0), 0);
        Due.is("differ(2, 3) of none", x.differ(2, 3), 0);
        Due.is("back(2) to sixteen", x.back(2), 16);
        Due.is("a seventeenth", x.event(1, 0, 0, 0, 0, 0), Due.FULL);
    }

    private static void claimsAtTheirGreatest() {
        HillLand x = new HillLand();
        for (int i = 0; i < 12; i++) x.claim(0, 7, 99);
        for (int i = 0; i < 11; i++) x.claim(7, 0, 99);
        Due.is("row(8, -1)", x.row(8, -1), 11 * 99);
        Due.is("row(8, 0)", x.row(8, 0), 0);
        Due.is("row(8, 7)", x.row(8, 7), 7);
        Due.is("sure(8, 0, 7)", x.sure(8, 0, 7), 1);
        Due.is("sure(8, 7, 0)", x.sure(8, 7, 0), 2);
        Due.is("row(7, -1)", x.row(7, -1), 0);
        Due.is("sure(7, 0, 6)", x.sure(7, 0, 6), 0);
        Due.is("the last claim", x.claim(7, 0, 99), 23);
        Due.is("row(8, -1) of as many either way", x.row(8, -1), 12 * 99);
        Due.is("row(8, 7)", x.row(8, 7), 7);
        Due.is("sure(8, 0, 7) of as many either way", x.sure(8, 0, 7), 0);
        x.event(0, 7, 1, 0, 0, 0);
        x.event(0, 0, 1, 0, 0, 0);
        Due.is("broken()", x.broken(), 12 * 99);
        x = new HillLand();
        for (int i = 0; i < 7; i++) x.claim(i + 1, i, 1);
        for (int i = 0; i < 8; i++) Due.is("row(8, " + i + ")", x.row(8, i), 7 - i);
        for (int i = 0; i < 7; i++) Due.is("sure(8, " + i + ", " + (i + 1) + ")", x.sure(8, i, i + 1), 2);
        Due.is("sure(8, 7, 0) by others", x.sure(8, 7, 0), 1);
        Due.is("row(2, 0)", x.row(2, 0), 1);
        Due.is("row(2, 1)", x.row(2, 1), 0);
    }

    private static void drawingsAtTheEnds() {
        HillLand x = new HillLand();
        x.sight(2, 7, 7, 15, 20, 39);
        Due.is("height 20 at step 7 along 0", x.draw(15, 0, 7, -1, 7), 20);
        Due.is("height 20 at step 7 along 1", x.draw(15, 1, 7, 1, 7), 20);
        Due.is("no bend", x.draw(15, 0, 7, -1, -1), 0);
        // straight from -15 up by 5
        Due.is("height at step 0", x.draw(15, 0, 7, -1, 0), -15);
        Due.is("as known by none", x.draw(15, 0, 7, 0, 7), -20);
        x.sight(2, 0, 7, 15, -40, -20);
        Due.is("height -20 at step 0", x.draw(15, 0, 7, -1, 0), -20);
        Due.is("height at step 7", x.draw(15, 0, 7, -1, 7), 20);
        Due.is("height at step 0 along 1", x.draw(15, 1, 0, -1, 7), -20);
        x.sight(2, 3, 7, 15, 21, 39);
        Due.is("21 is above all", x.draw(15, 0, 7, -1, -1), Due.NOT);
        x.forget();
        x.sight(2, 3, 7, 15, -40, -21);
        Due.is("-21 is below all", x.draw(15, 0, 7, -1, -1), Due.NOT);
        Due.is("it is not known yet", x.draw(15, 0, 7, 2, 7), 20);
        x.forget();
        x.sight(2, 0, 7, 15, -20, 39);
        x.sight(2, 0, 7, 15, -40, 39);
        Due.is("-20 is all they have in common", x.draw(15, 0, 7, -1, 0), -20);
        x.sight(2, 0, 7, 15, -19, 39);
        Due.is("nothing in common", x.draw(15, 0, 7, -1, 0), Due.NOT);
    }

    private static void storiesUpToSixteen() {
        int[] due = {1, 2, 5, 16, 65};
        for (int mights = 0; mights <= 4; mights++) {
            HillLand x = new HillLand();
            for (int i = 0; i < mights; i++) x.maybe(0, i, 1, 0, 0, 0);
            for (int i = 0; i < 16 - mights; i++) x.event(1, 0, 0, 0, 0, 0);
            String of = " of " + mights + " and " + x.count(0);
            Due.is("stories(0)" + of, x.stories(0), due[mights]);
            Due.is("the last story's length" + of, x.story(0, due[mights] - 1, -1), mights);
            Due.is("the last story's end" + of, x.story(0, due[mights] - 1, mights), Due.NONE);
            if (mights > 0) Due.is("the last story's last" + of, x.story(0, due[mights] - 1, mights - 1), 0);
            Due.is("behind the last story" + of, x.story(0, due[mights], -1), Due.NONE);
            Due.is("take behind the last" + of, x.take(0, due[mights]), Due.NOT);
            Due.is("next(0, 1)" + of, x.next(0, 1), due[mights]);
            Due.is("next(0, 2)" + of, x.next(0, 2), 1);
            if (mights > 0) {
                x.event(1, 0, 0, 0, 0, 0);
                Due.is("stories(0) of one more" + of, x.stories(0), Due.FULL);
                Due.is("story(0, 0, -1) of one more" + of, x.story(0, 0, -1), Due.FULL);
                Due.is("next(0, 0) of one more" + of, x.next(0, 0), Due.FULL);
                Due.is("take(0, 0) of one more" + of, x.take(0, 0), Due.FULL);
                x.undo();
            }
            Due.is("take of the last" + of, x.take(0, due[mights] - 1), 16);
            for (int i = 0; i < mights; i++) Due.is("told of the last" + of, x.told(15 - i, 1), i);
        }
    }

    private static void holesFirstAndLast() {
        HillLand x = new HillLand();
        // the lowest cells alone are unlike, and in another land the highest
        x.maybe(5, 3, 1, 2, 7, -40);
        Due.is("next(0, 0) by a lowest cell", x.next(0, 0), 16);
        Due.is("next(0, 1) by a lowest cell", x.next(0, 1), 2);
        x.never();
        for (int i = 0; i < 5; i++) x.event(3, 0, 0, 16, 0, 0);
        x.maybe(4, 39, 0, 8, 0, 0);
        x.maybe(4, 39, 0, 0, 0, 0);
        Due.is("next(0, 0) by a highest cell", x.next(0, 0), 8);
        Due.is("next(0, 1) by a highest cell", x.next(0, 1), 2);
        Due.is("next(0, 2) by a highest cell", x.next(0, 2), 3);
        x.clear();
        x.never();
        x.maybe(4, 27, -8, -8, 0, 0);
        Due.is("next(0, 0) at the last column", x.next(0, 0), 63);
        Due.is("next(0, 1)", x.next(0, 1), 2);
        Due.is("next(0, 2)", x.next(0, 2), 1);
        x.never();
        x.maybe(4, -1, 8, 8, 0, 0);
        Due.is("next(0, 0) at the first column", x.next(0, 0), 0);
        x.never();
        Due.is("next(0, 0) of one story", x.next(0, 0), 0);
        Due.is("next(0, 1) of one story", x.next(0, 1), 1);
        Due.is("next(0, 2) of one story", x.next(0, 2), 1);
    }
}
