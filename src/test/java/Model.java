import java.util.ArrayList;
import java.util.Arrays;
import java.util.HashMap;
import java.util.HashSet;
import java.util.List;
import java.util.Map;
import java.util.Set;

/** The document once more, told as plainly and as slowly as it can be, for HillLand to be held against. */
final class Model {
    static final int NONE = -1, UNKNOWN = -100001, OUTSIDE = -100002, NOT = -100003, FULL = -100004, LARGE = -100005;
    private static final int[][][] BOUNDS = {
        {{0, 14}, {1, 8}},
        {{-8, 8}, {-8, 8}},
        {{0, 1}, {-8, 8}, {2, 8}, {0, 7}},
        {{0, 1}, {0, 7}, {-16, 16}, {-2, 2}},
        {{-30, 39}, {-8, 8}, {-8, 8}},
        {{0, 14}, {0, 1}, {0, 7}, {0, 7}, {-40, 39}}};
    private static final int[] MAIN = {1, 0, 1, 2, 0, 4};
    private static final String[] WORDS = {"lay", "tilt", "fold", "break", "cut", "dyke"};

    /** An event: its kind and its numbers. */
    record Event(int kind, List<Integer> numbers, boolean loose) {
        int n(int i) {
            return i < numbers.size() ? numbers.get(i) : 0;
        }

        Event loosened(boolean is) {
            return new Event(kind, numbers, is);
        }

        Event changed(int by) {
            List<Integer> changed = new ArrayList<>(numbers);
            changed.set(MAIN[kind], changed.get(MAIN[kind]) + by);
            return new Event(kind, changed, loose);
        }

        boolean isAllowed() {
            for (int i = 0; i < BOUNDS[kind].length; i++) {
                if (n(i) < BOUNDS[kind][i][0] || n(i) > BOUNDS[kind][i][1]) return false;
            }
            return kind != 5 || n(3) >= n(2);
        }
    }

    record Sight(int kind, int x, int y, int b, int p, int q) {
    }

    record Claim(int a, int b, int weight) {
    }

    private List<Event> events = new ArrayList<>();
    private final List<Event> mights = new ArrayList<>();
    private final List<Sight> sights = new ArrayList<>();
    private final List<Claim> claims = new ArrayList<>();
    private final Map<Integer, List<Event>> versions = new HashMap<>();
    private final Map<Integer, List<List<Integer>>> bestKnown = new HashMap<>();
    private final StringBuilder text = new StringBuilder();
    private int fault = NONE;

    // ---- the land

    private static int[][] newLand() {
        int[][] land = new int[64][80];
        for (int[] column : land) {
            for (int i = 0; i < 80; i++) column[i] = i < 40 ? 15 : NONE;
        }
        return land;
    }

    private static int[][] landOf(List<Event> tale) {
        int[][] land = newLand();
        for (Event event : tale) land = befallen(land, event);
        return land;
    }

    private static int[][] befallen(int[][] land, Event e) {
        int[][] then = new int[64][80];
        for (int column = 0; column < 64; column++) {
            int ground = topmost(land[column], NONE);
            for (int h = -40; h < 40; h++) then[column][h + 40] = cellThen(land[column], e, column % 8, column / 8, h, ground);
        }
        return then;
    }

    private static int cellThen(int[] column, Event e, int x, int y, int h, int ground) {
        int now = column[h + 40];
        switch (e.kind) {
            case 0: return h > ground && h <= ground + e.n(1) ? e.n(0) : now;
            case 1: return taken(column, h - floor(e.n(0) * x + e.n(1) * y, 4));
            case 2: {
                int r = ((e.n(0) == 0 ? x : y) + e.n(3)) % e.n(2);
                int m = Math.min(r, e.n(2) - r);
                return taken(column, h - floor(e.n(1) * m, 2));
            }
            case 3: return 4 * (e.n(0) == 0 ? x : y) + e.n(3) * h >= 4 * e.n(1) ? taken(column, h - e.n(2)) : now;
            case 4: return h >= e.n(0) + floor(e.n(1) * x + e.n(2) * y, 4) ? NONE : now;
            default: {
                int step = e.n(1) == 0 ? x : y;
                return step >= e.n(2) && step <= e.n(3) && h <= e.n(4) && now != NONE ? e.n(0) : now;
            }
        }
    }

    private static int floor(int a, int b) {
        return (int) Math.floor((double) a / b);
    }

    private static int taken(int[] column, int h) {
        return h < -40 ? 15 : h > 39 ? NONE : column[h + 40];
    }

    /** The height of the topmost cell of a bed, or (NONE) of the topmost one that is no air. */
    private static int topmost(int[] column, int bed) {
        int top = -41;
        for (int h = -40; h < 40; h++) {
            int is = column[h + 40];
            if (bed == NONE ? is != NONE : is == bed) top = h;
        }
        return top;
    }

    private static int cells(int[][] land, int bed) {
        int many = 0;
        for (int[] column : land) {
            for (int is : column) many += is == bed ? 1 : 0;
        }
        return many;
    }

    // ---- events

    private static Event made(int kind, int... numbers) {
        if (kind < 0 || kind > 5) return null;
        List<Integer> own = new ArrayList<>();
        for (int i = 0; i < BOUNDS[kind].length; i++) own.add(numbers[i]);
        Event event = new Event(kind, own, false);
        return event.isAllowed() ? event : null;
    }

    int event(int kind, int a, int b, int c, int d, int e) {
        Event made = made(kind, a, b, c, d, e);
        if (made == null) return OUTSIDE;
        if (events.size() == 16) return FULL;
        events.add(made);
        return events.size() - 1;
    }

    int undo() {
        if (events.isEmpty()) return NOT;
        events.remove(events.size() - 1);
        return events.size();
    }

    int clear() {
        int many = events.size();
        events.clear();
        return many;
    }

    int told(int i, int what) {
        if (i < 0 || i >= events.size()) return UNKNOWN;
        if (what < 0 || what > 6) return OUTSIDE;
        Event event = events.get(i);
        return what == 0 ? event.kind : what == 6 ? (event.loose ? 1 : 0) : event.n(what - 1);
    }

    int loose(int i, boolean is) {
        if (i < 0 || i >= events.size()) return UNKNOWN;
        int before = told(i, 6);
        events.set(i, events.get(i).loosened(is));
        return before;
    }

    int swap(int i) {
        if (i < 0 || i >= events.size() - 1) return UNKNOWN;
        int[][] before = landOf(events);
        Event event = events.remove(i);
        events.add(i + 1, event);
        return unlike(before, landOf(events), 0);
    }

    private static int unlike(int[][] one, int[][] two, int what) {
        int columns = 0, first = NONE, cells = 0;
        for (int n = 63; n >= 0; n--) {
            if (Arrays.equals(one[n], two[n])) continue;
            columns++;
            first = n;
            for (int i = 0; i < 80; i++) cells += one[n][i] != two[n][i] ? 1 : 0;
        }
        return what == 0 ? columns : what == 1 ? first : cells;
    }

    int count(int what) {
        switch (what) {
            case 0: return events.size();
            case 1: return (int) events.stream().filter(Event::loose).count();
            case 2: return sights.size();
            case 3: return claims.size();
            case 4: return mights.size();
            case 5: return versions.size();
            case 6: return text.length();
            case 7: return crossings();
            case 8: return unmetOnes(landOf(events), sights.size()).size();
            default: return OUTSIDE;
        }
    }

    private int crossings() {
        int many = 0;
        for (int[] column : landOf(events)) {
            for (int i = 1; i < 80; i++) {
                if (column[i] == NONE || column[i - 1] == NONE) continue;
                if (born(column[i - 1]) > born(column[i])) many++;
            }
        }
        return many;
    }

    private int born(int bed) {
        for (int i = 0; i < events.size(); i++) {
            Event event = events.get(i);
            if ((event.kind == 0 || event.kind == 5) && event.n(0) == bed) return i;
        }
        return NONE;
    }

    // ---- the text

    int feed(int n, long bytes) {
        if (n < 1 || n > 8) return OUTSIDE;
        if (text.length() + n > 300) return FULL;
        String all = String.format("%016x", bytes).substring(16 - 2 * n);
        for (int i = 0; i < n; i++) text.append((char) Integer.parseInt(all.substring(2 * i, 2 * i + 2), 16));
        return text.length();
    }

    int read() {
        Reader reader = new Reader(text.toString());
        text.setLength(0);
        fault = reader.faultAt;
        if (reader.fault != 0) return -10 - reader.fault;
        events = reader.told;
        return events.size();
    }

    int fault() {
        return fault;
    }

    /** Cuts the text into words, numbers and signs, and reads these. */
    private static final class Reader {
        private final List<String> parts = new ArrayList<>();
        private final List<Integer> starts = new ArrayList<>();
        private final List<Event> told = new ArrayList<>();
        private int next = 0, fault = 0, faultAt = NONE;

        Reader(String text) {
            int i = 0;
            while (i < text.length()) {
                int end = i + 1;
                if (text.substring(i).matches("(?s)[a-z].*")) while (end < text.length() && isIn(text, end, 'a', 'z')) end++;
                if (text.substring(i).matches("(?s)-?[0-9].*")) while (end < text.length() && isIn(text, end, '0', '9')) end++;
                if (text.charAt(i) != ' ') {
                    parts.add(text.substring(i, end));
                    starts.add(i);
                }
                i = end;
            }
            parts.add("");
            starts.add(text.length());
            while (fault == 0 && !parts.get(next).isEmpty()) clause();
        }

        private static boolean isIn(String text, int i, char from, char to) {
            return text.charAt(i) >= from && text.charAt(i) <= to;
        }

        private void clause() {
            int kind = Arrays.asList(WORDS).indexOf(parts.get(next));
            if (kind < 0) refuse(1, starts.get(next));
            else if (told.size() == 16) refuse(3, starts.get(next));
            next++;
            List<Integer> numbers = new ArrayList<>();
            for (int i = 0; fault == 0 && i < BOUNDS[kind].length; i++) {
                boolean axis = kind == 2 && i == 0 || kind == 3 && i == 0 || kind == 5 && i == 1;
                numbers.add(axis ? axis() : number(kind, numbers));
                next++;
            }
            if (fault != 0) return;
            if (!parts.get(next).equals(";")) refuse(1, starts.get(next));
            else told.add(new Event(kind, numbers, false));
            next++;
        }

        private int axis() {
            String part = parts.get(next);
            if (!part.equals("x") && !part.equals("y")) refuse(1, starts.get(next));
            return part.equals("x") ? 0 : 1;
        }

        private int number(int kind, List<Integer> ahead) {
            String part = parts.get(next);
            if (part.equals("-")) return refuse(1, starts.get(next) + 1);
            if (!part.matches("-?[0-9]+")) return refuse(1, starts.get(next));
            if (!part.matches("-?[0-9]{1,2}")) return refuse(2, starts.get(next));
            int value = Integer.parseInt(part);
            int[] bounds = BOUNDS[kind][ahead.size()];
            int least = kind == 5 && ahead.size() == 3 ? ahead.get(2) : bounds[0];
            if (value < least || value > bounds[1]) return refuse(2, starts.get(next));
            return value;
        }

        private int refuse(int number, int at) {
            fault = number;
            faultAt = at;
            return 0;
        }
    }

    // ---- looking at the land

    private static boolean out(int value, int least, int most) {
        return value < least || value > most;
    }

    int at(int x, int y, int height) {
        return was(events.size(), x, y, height);
    }

    int skin(int x, int y, int what) {
        if (out(x, 0, 7) || out(y, 0, 7) || out(what, 0, 1)) return OUTSIDE;
        int height = topmost(landOf(events)[8 * y + x], NONE);
        return what == 0 ? height : height == -41 ? NONE : at(x, y, height);
    }

    int top(int bed, int x, int y, int what) {
        if (out(bed, 0, 15) || out(x, 0, 7) || out(y, 0, 7) || out(what, 0, 1)) return OUTSIDE;
        int[] column = landOf(events)[8 * y + x];
        return what == 0 ? topmost(column, bed) : cells(new int[][] {column}, bed);
    }

    int was(int k, int x, int y, int height) {
        if (out(k, 0, events.size()) || out(x, 0, 7) || out(y, 0, 7) || out(height, -40, 39)) return OUTSIDE;
        return landOf(events.subList(0, k))[8 * y + x][height + 40];
    }

    int amount(int bed, int what) {
        if (out(bed, 0, 15) || out(what, 0, 2)) return OUTSIDE;
        if (what == 0) return cells(landOf(events), bed);
        if (count(1) > 4) return LARGE;
        int[] ends = {5120, 0};
        vary(bed, 0, newLand(), ends);
        return ends[what - 1];
    }

    private void vary(int bed, int i, int[][] land, int[] ends) {
        if (i == events.size()) {
            int cells = cells(land, bed);
            ends[0] = Math.min(ends[0], cells);
            ends[1] = Math.max(ends[1], cells);
            return;
        }
        for (int by = -1; by <= 1; by++) {
            Event event = events.get(i).changed(by);
            if ((by == 0 || event.loose) && event.isAllowed()) vary(bed, i + 1, befallen(land, event), ends);
        }
    }

    int youth(int bed) {
        return out(bed, 0, 14) ? OUTSIDE : born(bed);
    }

    // ---- versions

    int keep(int v) {
        if (out(v, 0, 3)) return OUTSIDE;
        versions.put(v, new ArrayList<>(events));
        return events.size();
    }

    int back(int v) {
        if (!versions.containsKey(v)) return UNKNOWN;
        events = new ArrayList<>(versions.get(v));
        return events.size();
    }

    int differ(int v, int what) {
        if (!versions.containsKey(v)) return UNKNOWN;
        if (out(what, 0, 3)) return OUTSIDE;
        List<Event> version = versions.get(v);
        if (what < 3) return unlike(landOf(events), landOf(version), what);
        int many = 0;
        while (many < events.size() && many < version.size()
            && events.get(many).loosened(false).equals(version.get(many).loosened(false))) many++;
        return many;
    }

    // ---- sights

    int sight(int kind, int x, int y, int b, int p, int q) {
        if (out(kind, 0, 4) || out(x, 0, 7) || out(y, 0, 7) || out(b, kind < 2 ? -1 : 0, 15)) return OUTSIDE;
        if (kind == 1 && out(p, -40, 39)) return OUTSIDE;
        if (kind == 2 && (out(p, -40, 39) || out(q, -40, 39) || p > q)) return OUTSIDE;
        if (kind == 3 && (out(p, 0, 1) || out(q, -79, 79) || (p == 0 ? x : y) == 7)) return OUTSIDE;
        if (kind == 4 && out(p, 0, 15)) return OUTSIDE;
        if (sights.size() == 30) return FULL;
        sights.add(new Sight(kind, x, y, b, p, q));
        return sights.size() - 1;
    }

    private static boolean isMet(int[][] land, Sight s) {
        int[] column = land[8 * s.y + s.x];
        int skin = topmost(column, NONE), top = s.b == NONE ? -41 : topmost(column, s.b);
        switch (s.kind) {
            case 0: return (skin == -41 ? NONE : column[skin + 40]) == s.b;
            case 1: return column[s.p + 40] == s.b;
            case 2: return top != -41 && s.p <= top && top <= s.q;
            case 3: {
                int ahead = topmost(land[s.p == 0 ? 8 * s.y + s.x + 1 : 8 * (s.y + 1) + s.x], s.b);
                return top != -41 && ahead != -41 && ahead - top == s.q;
            }
            default: {
                for (int i = 0; i < 79; i++) {
                    if (column[i] == s.p && column[i + 1] == s.b) return true;
                }
                return false;
            }
        }
    }

    int met(int i) {
        if (out(i, 0, sights.size() - 1)) return UNKNOWN;
        return isMet(landOf(events), sights.get(i)) ? 1 : 0;
    }

    private List<Integer> unmetOnes(int[][] land, int k) {
        List<Integer> unmet = new ArrayList<>();
        for (int i = 0; i < k; i++) {
            if (!isMet(land, sights.get(i))) unmet.add(i);
        }
        return unmet;
    }

    private int first(int k) {
        return k == NONE ? sights.size() : k;
    }

    int unmet(int k, int i) {
        if (out(k, NONE, sights.size())) return OUTSIDE;
        List<Integer> unmet = unmetOnes(landOf(events), first(k));
        return out(i, 0, unmet.size() - 1) ? NONE : unmet.get(i);
    }

    int forget() {
        if (sights.isEmpty()) return NOT;
        sights.remove(sights.size() - 1);
        return sights.size();
    }

    // ---- ages

    int claim(int a, int b, int weight) {
        if (out(a, 0, 7) || out(b, 0, 7) || a == b || out(weight, 1, 99)) return OUTSIDE;
        if (claims.size() == 24) return FULL;
        claims.add(new Claim(a, b, weight));
        bestKnown.clear();
        return claims.size() - 1;
    }

    /** All rows of n beds, in the order of their beds. */
    private static void rows(int n, List<Integer> begun, List<List<Integer>> all) {
        if (begun.size() == n) all.add(new ArrayList<>(begun));
        for (int bed = 0; bed < n; bed++) {
            if (begun.contains(bed)) continue;
            begun.add(bed);
            rows(n, begun, all);
            begun.remove(begun.size() - 1);
        }
    }

    private int quarrel(List<Integer> row) {
        int sum = 0;
        for (Claim claim : claims) {
            int a = row.indexOf(claim.a), b = row.indexOf(claim.b);
            if (a >= 0 && b >= 0 && a > b) sum += claim.weight;
        }
        return sum;
    }

    private List<List<Integer>> bestRows(int n) {
        return bestKnown.computeIfAbsent(n, this::findBestRows);
    }

    private List<List<Integer>> findBestRows(int n) {
        List<List<Integer>> all = new ArrayList<>(), best = new ArrayList<>();
        rows(n, new ArrayList<>(), all);
        int least = Integer.MAX_VALUE;
        for (List<Integer> row : all) {
            int quarrel = quarrel(row);
            if (quarrel < least) best.clear();
            if (quarrel <= least) best.add(row);
            least = Math.min(least, quarrel);
        }
        return best;
    }

    int row(int n, int i) {
        if (out(n, 2, 8) || out(i, NONE, n - 1)) return OUTSIDE;
        List<Integer> row = bestRows(n).get(0);
        return i == NONE ? quarrel(row) : row.get(i);
    }

    int sure(int n, int a, int b) {
        if (out(n, 2, 8) || out(a, 0, n - 1) || out(b, 0, n - 1) || a == b) return OUTSIDE;
        boolean isAhead = true, isBehind = true;
        for (List<Integer> row : bestRows(n)) {
            if (row.indexOf(a) < row.indexOf(b)) isBehind = false;
            else isAhead = false;
        }
        return isAhead ? 1 : isBehind ? 2 : 0;
    }

    int broken() {
        int sum = 0;
        for (Claim claim : claims) {
            int a = born(claim.a), b = born(claim.b);
            if (a != NONE && b != NONE && a > b) sum += claim.weight;
        }
        return sum;
    }

    // ---- drawings

    int draw(int bed, int axis, int line, int k, int i) {
        if (out(bed, 0, 15) || out(axis, 0, 1) || out(line, 0, 7) || out(k, NONE, sights.size()) || out(i, NONE, 7)) return OUTSIDE;
        int[] low = new int[8], high = new int[8];
        Arrays.fill(low, -20);
        Arrays.fill(high, 20);
        for (Sight s : sights.subList(0, first(k))) {
            if (s.kind != 2 || s.b != bed || (axis == 0 ? s.y : s.x) != line) continue;
            int step = axis == 0 ? s.x : s.y;
            low[step] = Math.max(low[step], s.p);
            high[step] = Math.min(high[step], s.q);
        }
        for (int step = 0; step < 8; step++) {
            if (low[step] > high[step]) return NOT;
        }
        int[] best = drawn(low, high);
        return i == NONE ? bendOf(best) : best[i];
    }

    private static int bendOf(int[] heights) {
        int sum = 0;
        for (int i = 1; i < 7; i++) {
            int turn = heights[i + 1] - 2 * heights[i] + heights[i - 1];
            sum += turn * turn;
        }
        return sum;
    }

    /** From the left: of every two last heights the best row of heights so far. */
    private static int[] drawn(int[] low, int[] high) {
        Map<List<Integer>, int[]> best = new HashMap<>();
        for (int a = low[0]; a <= high[0]; a++) {
            for (int b = low[1]; b <= high[1]; b++) best.put(List.of(a, b), new int[] {a, b, 0, 0, 0, 0, 0, 0});
        }
        for (int step = 2; step < 8; step++) {
            Map<List<Integer>, int[]> longer = new HashMap<>();
            for (int[] row : best.values()) {
                for (int c = low[step]; c <= high[step]; c++) {
                    int[] next = row.clone();
                    next[step] = c;
                    longer.merge(List.of(row[step - 1], c), next, Model::better);
                }
            }
            best = longer;
        }
        int[] first = null;
        for (int[] row : best.values()) first = first == null ? row : better(first, row);
        return first;
    }

    /** What stands behind the last height told is 0 in both and bends both alike, as their last two heights are like. */
    private static int[] better(int[] one, int[] two) {
        int bends = Integer.compare(bendOf(one), bendOf(two));
        return bends < 0 || bends == 0 && Arrays.compare(one, two) < 0 ? one : two;
    }

    // ---- stories

    int maybe(int kind, int a, int b, int c, int d, int e) {
        Event made = made(kind, a, b, c, d, e);
        if (made == null) return OUTSIDE;
        if (mights.size() == 4) return FULL;
        mights.add(made);
        return mights.size() - 1;
    }

    int never() {
        int many = mights.size();
        mights.clear();
        return many;
    }

    private void allStories(List<Integer> begun, List<List<Integer>> all) {
        all.add(new ArrayList<>(begun));
        for (int i = 0; i < mights.size(); i++) {
            if (begun.contains(i)) continue;
            begun.add(i);
            allStories(begun, all);
            begun.remove(begun.size() - 1);
        }
    }

    private List<Event> taleOf(List<Integer> story) {
        List<Event> tale = new ArrayList<>(events);
        for (int i : story) tale.add(mights.get(i));
        return tale;
    }

    private List<List<Integer>> fitting(int k) {
        List<List<Integer>> all = new ArrayList<>();
        allStories(new ArrayList<>(), all);
        // the sort keeps the order of those that are as long, and these stand by numbers already
        all.sort((one, two) -> Integer.compare(one.size(), two.size()));
        all.removeIf(story -> !unmetOnes(landOf(taleOf(story)), first(k)).isEmpty());
        return all;
    }

    private int refusal(int k) {
        if (out(k, NONE, sights.size())) return OUTSIDE;
        return events.size() + mights.size() > 16 ? FULL : 0;
    }

    int stories(int k) {
        return refusal(k) != 0 ? refusal(k) : fitting(k).size();
    }

    int story(int k, int i, int j) {
        if (refusal(k) != 0) return refusal(k);
        List<List<Integer>> fitting = fitting(k);
        if (out(i, 0, fitting.size() - 1)) return NONE;
        List<Integer> story = fitting.get(i);
        return j == NONE ? story.size() : out(j, 0, story.size() - 1) ? NONE : story.get(j);
    }

    int next(int k, int what) {
        if (out(what, 0, 2)) return OUTSIDE;
        if (refusal(k) != 0) return refusal(k);
        List<int[][]> lands = new ArrayList<>();
        for (List<Integer> story : fitting(k)) lands.add(landOf(taleOf(story)));
        if (lands.isEmpty()) return NOT;
        int[] best = {NONE, 0, 0};
        for (int n = 0; n < 64; n++) {
            Map<String, Integer> sets = new HashMap<>();
            for (int[][] land : lands) sets.merge(Arrays.toString(land[n]), 1, Integer::sum);
            int most = 0;
            for (int size : sets.values()) most = Math.max(most, size);
            if (sets.size() > best[1] || sets.size() == best[1] && most < best[2]) best = new int[] {n, sets.size(), most};
        }
        return best[what];
    }

    int take(int k, int i) {
        if (refusal(k) != 0) return refusal(k);
        List<List<Integer>> fitting = fitting(k);
        if (out(i, 0, fitting.size() - 1)) return NOT;
        events = taleOf(fitting.get(i));
        return events.size();
    }

    /** Which beds are in a column now: for tests that want sights that are met. */
    Set<Integer> bedsAt(int x, int y) {
        Set<Integer> beds = new HashSet<>();
        for (int is : landOf(events)[8 * y + x]) beds.add(is);
        return beds;
    }
}
