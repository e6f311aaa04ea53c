import java.util.ArrayList;
import java.util.List;

/** Long runs of calls, each answer held against that of the Model. */
public final class ModelTest {
    private static final int[][] BOUNDS = {
        {0, 14, 1, 8}, {-8, 8, -8, 8}, {0, 1, -8, 8, 2, 8, 0, 7}, {0, 1, 0, 7, -16, 16, -2, 2}, {-30, 39, -8, 8, -8, 8},
        {0, 14, 0, 1, 0, 7, 0, 7, -40, 39}};
    private static final String[] WORDS = {"lay", "tilt", "fold", "break", "cut", "dyke"};

    private final int run;
    private final boolean isSmall;
    private final HillLand land = new HillLand();
    private final Model model = new Model();
    private long seed;

    private ModelTest(int run) {
        this.run = run;
        this.isSmall = run % 3 != 0;
        this.seed = run * 7919L + 1;
    }

    public static void main(String[] args) {
        int runs = args.length > 0 ? Integer.parseInt(args[0]) : 15;
        for (int run = 0; run < runs; run++) {
            new ModelTest(run).go(run % 5 == 0 ? 500 : 150);
            new ModelTest(run).drawings();
            new ModelTest(run).rows();
            new ModelTest(run).ends();
            new ModelTest(run).tellings();
            for (int texts = 0; texts < 10; texts++) new ModelTest(100 * run + texts).readTexts();
        }
        Due.end();
    }

    /** A number from least to most; always the same for the same run. */
    private int any(int least, int most) {
        seed = seed * 6364136223846793005L + 1442695040888963407L;
        return least + (int) ((seed >>> 33) % (most - least + 1));
    }

    /** Mostly within bounds, at times just on or beyond them. */
    private int near(int least, int most) {
        int kind = any(0, 59);
        if (kind == 0) return least - 1;
        if (kind == 1) return most + 1;
        if (kind == 2) return any(0, 1) == 0 ? Integer.MIN_VALUE : Integer.MAX_VALUE;
        if (kind < 8) return any(0, 1) == 0 ? least : most;
        return any(least, most);
    }

    private int bed() {
        return any(0, 5) == 0 ? near(0, 15) : near(0, isSmall ? 4 : 14);
    }

    private void is(String call, int got, int want) {
        Due.is("run " + run + ": " + call, got, want);
    }

    private void go(int calls) {
        for (int i = 0; i < calls; i++) {
            switch (any(0, 9)) {
                case 0: case 1: case 2: event(); break;
                case 3: change(); break;
                case 4: look(); break;
                case 5: version(); break;
                case 6: sight(); break;
                case 7: ages(); break;
                case 8: draw(); break;
                default: stories(); break;
            }
            if (any(0, 3) == 0) count();
        }
    }

    private int[] numbers(int kind) {
        int[] numbers = new int[5];
        for (int i = 0; i < 5; i++) {
            boolean isOwn = kind >= 0 && kind < 6 && 2 * i < BOUNDS[kind].length;
            numbers[i] = isOwn ? near(BOUNDS[kind][2 * i], BOUNDS[kind][2 * i + 1]) : any(-99, 99);
        }
        if (isSmall && kind == 0) numbers[0] = bed();
        if (kind == 5 && any(0, 3) > 0 && numbers[2] > numbers[3]) {
            int from = numbers[3];
            numbers[3] = numbers[2];
            numbers[2] = from;
        }
        return numbers;
    }

    private static String told(int... numbers) {
        StringBuilder told = new StringBuilder();
        for (int number : numbers) told.append(told.length() == 0 ? "" : ", ").append(number);
        return told.toString();
    }

    private void event() {
        int kind = any(0, 3) == 0 ? 0 : near(0, 5);
        int[] n = numbers(kind);
        is("event(" + kind + ", " + told(n) + ")", land.event(kind, n[0], n[1], n[2], n[3], n[4]),
            model.event(kind, n[0], n[1], n[2], n[3], n[4]));
        if (any(0, 9) == 0) is("undo()", land.undo(), model.undo());
    }

    private void change() {
        int events = model.count(0), i = near(0, Math.max(0, events - 1)), what = near(0, 6);
        switch (any(0, 19)) {
            case 0: is("clear()", land.clear(), model.clear()); break;
            case 1: case 2: is("undo()", land.undo(), model.undo()); break;
            case 3: case 4: case 5: case 6: is("swap(" + i + ")", land.swap(i), model.swap(i)); break;
            case 7: case 8: case 9: case 10: case 11: {
                boolean isLoose = model.count(1) < 3 || any(0, 4) == 0;
                is("loose(" + i + ", " + isLoose + ")", land.loose(i, isLoose), model.loose(i, isLoose));
                break;
            }
            case 12: readText(); break;
            default: is("told(" + i + ", " + what + ")", land.told(i, what), model.told(i, what)); break;
        }
    }

    private void look() {
        int bed = bed(), x = near(0, 7), y = near(0, 7), height = near(-40, 39), k = near(0, model.count(0)), what = near(0, 1);
        is("at(" + told(x, y, height) + ")", land.at(x, y, height), model.at(x, y, height));
        is("skin(" + told(x, y, what) + ")", land.skin(x, y, what), model.skin(x, y, what));
        is("top(" + told(bed, x, y, what) + ")", land.top(bed, x, y, what), model.top(bed, x, y, what));
        is("was(" + told(k, x, y, height) + ")", land.was(k, x, y, height), model.was(k, x, y, height));
        is("youth(" + bed + ")", land.youth(bed), model.youth(bed));
        if (any(0, 3) > 0) return;
        what = near(0, 2);
        is("amount(" + told(bed, what) + ")", land.amount(bed, what), model.amount(bed, what));
    }

    private void version() {
        int v = near(0, 3), what = near(0, 3);
        if (any(0, 2) == 0) is("keep(" + v + ")", land.keep(v), model.keep(v));
        else if (any(0, 5) == 0) is("back(" + v + ")", land.back(v), model.back(v));
        else is("differ(" + told(v, what) + ")", land.differ(v, what), model.differ(v, what));
    }

    private void sight() {
        int kind = near(0, 4), x = near(0, 7), y = near(0, 7), b = bed(), p = near(-40, 39), q = near(-40, 39);
        if (kind < 2 && any(0, 3) == 0) b = -1;
        if (kind == 2 && any(0, 1) == 0) p = near(-22, 22);
        if (kind == 2 && any(0, 3) > 0) q = p + near(0, 6);
        if (kind == 3) p = near(0, 1);
        if (kind == 3) q = near(-79, 79);
        if (kind == 4) p = bed();
        int[] met = any(0, 4) > 0 ? metSight(kind, x, y, b, p, q) : null;
        if (met != null) {
            b = met[0];
            p = met[1];
            q = met[2];
        }
        is("sight(" + told(kind, x, y, b, p, q) + ")", land.sight(kind, x, y, b, p, q), model.sight(kind, x, y, b, p, q));
        int sights = model.count(2), i = near(0, Math.max(0, sights - 1)), k = near(-1, sights);
        is("met(" + i + ")", land.met(i), model.met(i));
        is("unmet(" + told(k, 0) + ")", land.unmet(k, 0), model.unmet(k, 0));
        is("unmet(" + told(k, i) + ")", land.unmet(k, i), model.unmet(k, i));
        int forgets = any(0, 7) == 0 ? any(1, 6) : 0;
        for (int f = 0; f < forgets; f++) is("forget()", land.forget(), model.forget());
    }

    /** Numbers of a sight that the land meets now, so that stories fit at times. */
    private int[] metSight(int kind, int x, int y, int b, int p, int q) {
        if (kind < 0 || x < 0 || x > 7 || y < 0 || y > 7) return null;
        if (kind == 0) return new int[] {model.skin(x, y, 1), p, q};
        if (kind == 1 && p >= -40 && p <= 39) return new int[] {model.at(x, y, p), p, q};
        List<Integer> beds = new ArrayList<>(model.bedsAt(x, y));
        beds.remove(Integer.valueOf(-1));
        if (beds.isEmpty()) return null;
        int bed = beds.get(any(0, beds.size() - 1)), top = model.top(bed, x, y, 0);
        if (kind == 2) return new int[] {bed, Math.max(-40, top - any(0, 3)), Math.min(39, top + any(0, 3))};
        if (kind == 3 && (p == 0 && x < 7 || p == 1 && y < 7)) {
            int ahead = model.top(bed, p == 0 ? x + 1 : x, p == 0 ? y : y + 1, 0);
            return ahead == -41 ? null : new int[] {bed, p, ahead - top};
        }
        int under = top > -40 ? model.at(x, y, top - 1) : -1;
        return kind == 4 && under >= 0 ? new int[] {bed, under, q} : null;
    }

    private void ages() {
        int a = near(0, 7), b = near(0, 7), weight = near(1, 99);
        if (any(0, 3) == 0) is("claim(" + told(a, b, weight) + ")", land.claim(a, b, weight), model.claim(a, b, weight));
        is("broken()", land.broken(), model.broken());
        int n = any(0, 40) == 0 ? near(2, 8) : near(2, 5), i = near(-1, n - 1);
        int one = near(0, n - 1), two = near(0, n - 1);
        is("row(" + told(n, i) + ")", land.row(n, i), model.row(n, i));
        is("sure(" + told(n, one, two) + ")", land.sure(n, one, two), model.sure(n, one, two));
    }

    private void draw() {
        if (any(0, 9) > 0) return;
        int bed = bed(), axis = near(0, 1), line = near(0, 7), k = near(-1, model.count(2)), i = near(-1, 7);
        is("draw(" + told(bed, axis, line, k, i) + ")", land.draw(bed, axis, line, k, i), model.draw(bed, axis, line, k, i));
    }

    private void stories() {
        int kind = near(0, 5);
        int[] n = numbers(kind);
        if (any(0, 2) == 0) {
            is("maybe(" + kind + ", " + told(n) + ")", land.maybe(kind, n[0], n[1], n[2], n[3], n[4]),
                model.maybe(kind, n[0], n[1], n[2], n[3], n[4]));
        }
        if (any(0, 19) == 0) is("never()", land.never(), model.never());
        int k = any(0, 2) == 0 ? near(-1, model.count(2)) : any(0, model.count(2)), fits = model.stories(k);
        is("stories(" + k + ")", land.stories(k), fits);
        int i = near(0, Math.max(0, fits - 1)), j = near(-1, 4), what = near(0, 2);
        is("story(" + told(k, i, j) + ")", land.story(k, i, j), model.story(k, i, j));
        is("next(" + told(k, what) + ")", land.next(k, what), model.next(k, what));
        if (any(0, 4) == 0) is("take(" + told(k, i) + ")", land.take(k, i), model.take(k, i));
    }

    /** Many tops of few beds in few column rows. */
    private void drawings() {
        for (int i = 0; i < 30; i++) {
            int axis = i % 2, line = any(2, 3), step = any(0, 7), p = any(-24, 22), q = p + any(0, 8);
            int x = axis == 0 ? step : line, y = axis == 0 ? line : step, b = any(6, 7);
            is("sight(" + told(2, x, y, b, p, q) + ")", land.sight(2, x, y, b, p, q), model.sight(2, x, y, b, p, q));
            if (any(0, 3) > 0) continue;
            int k = any(-1, i), height = any(-1, 7);
            is("draw(" + told(b, axis, line, k, height) + ")", land.draw(b, axis, line, k, height), model.draw(b, axis, line, k, height));
        }
    }

    /** Claims of few weights, so that rows have like quarrels. */
    private void rows() {
        int n = run % 4 == 0 ? 8 : any(3, 6);
        for (int i = 0; i < 24; i++) {
            int a = any(0, n - 1), b = (a + any(1, n - 1)) % n, weight = run % 2 == 0 ? any(1, 3) : any(1, 99);
            is("claim(" + told(a, b, weight) + ")", land.claim(a, b, weight), model.claim(a, b, weight));
            if (any(0, 2) > 0) continue;
            int one = any(0, n - 1), two = any(0, n - 1), at = any(-1, n - 1);
            is("row(" + told(n, at) + ")", land.row(n, at), model.row(n, at));
            is("sure(" + told(n, one, two) + ")", land.sure(n, one, two), model.sure(n, one, two));
        }
    }

    /** Few events, of which up to five are loose. */
    private void ends() {
        for (int i = 0; i < 25; i++) {
            if (model.count(0) < 6) event();
            int at = any(0, 5), bed = bed(), what = any(1, 2);
            boolean isLoose = any(0, 4) > 0;
            is("loose(" + at + ", " + isLoose + ")", land.loose(at, isLoose), model.loose(at, isLoose));
            is("amount(" + told(bed, what) + ")", land.amount(bed, what), model.amount(bed, what));
            is("amount(" + told(15, what) + ")", land.amount(15, what), model.amount(15, what));
            if (any(0, 5) == 0) is("undo()", land.undo(), model.undo());
            if (any(0, 5) == 0) is("swap(" + at + ")", land.swap(at), model.swap(at));
        }
    }

    /** Four events that may be, and few sights that most stories meet. */
    private void tellings() {
        for (int i = 0; i < 3; i++) event();
        for (int i = 0; i < 4; i++) {
            int kind = any(0, 5);
            int[] n = numbers(kind);
            is("maybe(" + kind + ", " + told(n) + ")", land.maybe(kind, n[0], n[1], n[2], n[3], n[4]),
                model.maybe(kind, n[0], n[1], n[2], n[3], n[4]));
        }
        for (int i = 0; i < 12; i++) {
            if (i % 3 == 0) sight();
            int k = any(0, model.count(2)), fits = model.stories(k), at = any(0, fits), j = any(-1, 4), what = any(0, 2);
            is("stories(" + k + ")", land.stories(k), fits);
            is("story(" + told(k, at, j) + ")", land.story(k, at, j), model.story(k, at, j));
            is("next(" + told(k, what) + ")", land.next(k, what), model.next(k, what));
        }
        int at = any(0, model.stories(0));
        is("take(" + told(0, at) + ")", land.take(0, at), model.take(0, at));
        for (int n = 0; n < 64; n++) is("skin of column " + n, land.skin(n % 8, n / 8, 0), model.skin(n % 8, n / 8, 0));
    }

    private void count() {
        int what = near(0, 8);
        is("count(" + what + ")", land.count(what), model.count(what));
    }

    // ---- texts

    private void readTexts() {
        for (int i = 0; i < 20; i++) readText();
    }

    private void readText() {
        String text = text();
        for (int i = 0; i < text.length(); i += 7) {
            int n = Math.min(7, text.length() - i);
            long packed = any(-1, 0);
            for (int j = 0; j < n; j++) packed = packed << 8 | text.charAt(i + j);
            is("feed of '" + text + "'", land.feed(n, packed), model.feed(n, packed));
        }
        is("count(6) of '" + text + "'", land.count(6), model.count(6));
        is("read() of '" + text + "'", land.read(), model.read());
        is("fault() of '" + text + "'", land.fault(), model.fault());
        is("count(0) of '" + text + "'", land.count(0), model.count(0));
        for (int i = 0; i < model.count(0); i++) {
            for (int what = 0; what <= 6; what++) is("told of '" + text + "'", land.told(i, what), model.told(i, what));
        }
    }

    private String text() {
        StringBuilder text = new StringBuilder();
        int clauses = any(0, 5) == 0 ? any(14, 18) : any(0, 6);
        for (int i = 0; i < clauses; i++) clause(text, clauses > 10);
        int spoils = any(0, 2) == 0 ? any(1, 3) : 0;
        for (int i = 0; i < spoils; i++) spoil(text);
        if (text.length() > 310) text.setLength(310);
        return text.toString();
    }

    private void clause(StringBuilder text, boolean isTight) {
        int kind = any(0, 5);
        blanks(text, isTight);
        text.append(WORDS[kind]);
        for (int i = 0; 2 * i < BOUNDS[kind].length; i++) {
            boolean isAxis = kind == 2 && i == 0 || kind == 3 && i == 0 || kind == 5 && i == 1;
            int value = isAxis ? any(0, 1) : any(0, 19) == 0 ? near(BOUNDS[kind][2 * i], BOUNDS[kind][2 * i + 1])
                : any(BOUNDS[kind][2 * i], BOUNDS[kind][2 * i + 1]);
            if (kind == 5 && i == 3 && any(0, 2) > 0) value = 7;
            boolean isNeeded = isAxis ? Character.isLetter(text.charAt(text.length() - 1))
                : value >= 0 && Character.isDigit(text.charAt(text.length() - 1));
            if (isNeeded && any(0, 40) > 0) text.append(' ');
            blanks(text, isTight);
            text.append(isAxis ? (value == 0 ? "x" : "y") : any(0, 9) == 0 && Math.abs(value) < 10 ? padded(value) : "" + value);
        }
        blanks(text, isTight);
        if (any(0, 40) > 0) text.append(';');
    }

    private static String padded(int value) {
        return (value < 0 ? "-0" : "0") + Math.abs(value);
    }

    private void blanks(StringBuilder text, boolean isTight) {
        int many = isTight ? 0 : Math.max(0, any(-3, 2));
        for (int i = 0; i < many; i++) text.append(' ');
    }

    private void spoil(StringBuilder text) {
        String signs = " ;-0123456789xylaytiltfoldbreakcutdyke\t,A\u00e4\u0000{`/:";
        char sign = signs.charAt(any(0, signs.length() - 1));
        int at = any(0, text.length());
        switch (any(0, 3)) {
            case 0: text.insert(at, sign); break;
            case 1: if (at < text.length()) text.deleteCharAt(at); break;
            case 2: if (at < text.length()) text.setCharAt(at, sign); break;
            default: if (any(0, 3) == 0) text.setLength(at); break;
        }
    }
}
