import java.util.ArrayList;
import java.util.List;

/**
 * Promise by promise: each number of a call at the least and the greatest that is within its bounds, at those next to
 * them that are not, and at the ends of int; in a land with nothing, with some of all, next to full, and full.
 *
 * In a row of BOUNDS stand the promise, the call and its numbers: one number, which stays as it is; "a..b", its bounds
 * (OUTSIDE beyond them); "events", "sights", "versions", "swaps" for the numbers of those that there are (UNKNOWN
 * beyond them); "so-far" 0 .. EVENTS and "known" NONE .. SIGHTS (OUTSIDE); "any" for a number that is not looked at;
 * "free" for one without bounds.
 */
public final class BoundsTest {
    private static final int LEAST = Integer.MIN_VALUE, MOST = Integer.MAX_VALUE;
    private static final String[] BOUNDS = {
        "2 event 0..5 1 1 3 4 5",
        "2 event 0 0..14 1..8 any any any",
        "2 event 1 -8..8 -8..8 any any any",
        "2 event 2 0..1 -8..8 2..8 0..7 any",
        "2 event 3 0..1 0..7 -16..16 -2..2 any",
        "2 event 4 -30..39 -8..8 -8..8 any any",
        "2 event 5 0..14 0..1 0..4 4 -40..39",
        "2 event 5 14 1 4 4..7 0",
        "2 event 5 14 1 0 0..7 0",
        "2 event 5 14 1 0..7 7 0",
        "5 told events 0..6",
        "6 loose events 1",
        "6 loose events 0",
        "7 swap swaps",
        "8 count 0..8",
        "9 feed 1..8 60",
        "12 at 0..7 0..7 -40..39",
        "13 skin 0..7 0..7 0..1",
        "14 top 0..15 0..7 0..7 0..1",
        "15 was so-far 0..7 0..7 -40..39",
        "16 amount 0..15 0..2",
        "17 youth 0..14",
        "18 keep 0..3",
        "19 back versions",
        "20 differ versions 0..3",
        "21 sight 0..4 3 3 3 1 1",
        "21 sight 0 0..7 0..7 -1..15 any any",
        "21 sight 1 0..7 0..7 -1..15 -40..39 any",
        "21 sight 2 0..7 0..7 0..15 -40..12 12",
        "21 sight 2 0..7 0..7 0..15 -7 -7..39",
        "21 sight 2 0 0 0 -40..39 39",
        "21 sight 2 0 0 0 -40 -40..39",
        "21 sight 3 0..6 0..7 0..15 0 -79..79",
        "21 sight 3 0..7 0..6 0..15 1 -79..79",
        "21 sight 3 6 6 2 0..1 1",
        "21 sight 4 0..7 0..7 0..15 0..15 any",
        "22 met sights",
        "23 unmet known free",
        "25 claim 0..7 4 7",
        "25 claim 4 0..7 7",
        "25 claim 3 4 1..99",
        "26 row 2..8 -1..1",
        "26 row 8 -1..7",
        "26 row 5 -1..4",
        "27 sure 2..8 1 0",
        "27 sure 8 0..6 7",
        "27 sure 8 7 0..6",
        "27 sure 4 3 0..2",
        "27 sure 3..8 0..1 2",
        "29 draw 0..15 0..1 0..7 known -1..7",
        "30 maybe 0..5 1 1 3 4 5",
        "30 maybe 0 0..14 1..8 any any any",
        "30 maybe 1 -8..8 -8..8 any any any",
        "30 maybe 2 0..1 -8..8 2..8 0..7 any",
        "30 maybe 3 0..1 0..7 -16..16 -2..2 any",
        "30 maybe 4 -30..39 -8..8 -8..8 any any",
        "30 maybe 5 0..14 0..1 0..4 4 -40..39",
        "30 maybe 5 14 1 4 4..7 0",
        "30 maybe 5 14 1 0 0..7 0",
        "32 stories known",
        "33 story known free free",
        "34 next known 0..2",
        "35 take known free"};

    private final String promise;
    private final String[] told;
    private final State state;
    private final HillLand before;
    private final int[] least, most;
    private final Call good;
    private int[][] untouched = null;

    private BoundsTest(String row, State state) {
        String[] parts = row.split(" ");
        this.promise = "promise " + parts[0] + ", " + state + ": ";
        this.told = java.util.Arrays.copyOfRange(parts, 2, parts.length);
        this.state = state;
        this.before = (HillLand) state.on(new HillLand());
        this.least = new int[told.length];
        this.most = new int[told.length];
        long[] numbers = new long[told.length];
        for (int i = 0; i < told.length; i++) {
            bound(i);
            numbers[i] = Math.max(least[i], Math.min(most[i], 2));
        }
        this.good = new Call(parts[1], numbers);
    }

    public static void main(String[] args) {
        for (String row : BOUNDS) {
            for (State state : State.values()) new BoundsTest(row, state).go();
        }
        Due.end();
    }

    private void bound(int i) {
        int end = told[i].indexOf("..");
        least[i] = isKnown(i) ? -1 : isFree(i) ? LEAST : end < 0 ? own(i) : Integer.parseInt(told[i].substring(0, end));
        most[i] = end < 0 ? own(i) : Integer.parseInt(told[i].substring(end + 2));
        if (isCounted(i)) least[i] = 0;
    }

    private boolean isKnown(int i) {
        return told[i].equals("known");
    }

    private boolean isFree(int i) {
        return told[i].equals("free") || told[i].equals("any");
    }

    private boolean isFixed(int i) {
        return told[i].matches("-?[0-9]+");
    }

    private boolean isCounted(int i) {
        return told[i].equals("so-far") || isNumbered(i);
    }

    private boolean isNumbered(int i) {
        return told[i].equals("events") || told[i].equals("swaps") || told[i].equals("sights") || told[i].equals("versions");
    }

    private int own(int i) {
        switch (told[i]) {
            case "events": return before.count(0) - 1;
            case "swaps": return before.count(0) - 2;
            case "so-far": return before.count(0);
            case "sights": return before.count(2) - 1;
            case "known": return before.count(2);
            case "versions": return state == State.NEW ? -1 : state == State.FULL ? 3 : state == State.SOME ? 0 : 2;
            case "free": case "any": return MOST;
            default: return Integer.parseInt(told[i]);
        }
    }

    private void go() {
        within(good);
        for (int i = 0; i < told.length; i++) {
            if (isFixed(i)) continue;
            within(good.with(i, least[i]));
            within(good.with(i, most[i]));
            if (isFree(i)) {
                within(good.with(i, 0));
                continue;
            }
            for (long number : new long[] {least[i] - 1L, most[i] + 1L, LEAST, MOST}) beyond(good.with(i, number), i);
            changesNothing(good.with(i, least[i] - 1L));
            changesNothing(good.with(i, most[i] + 1L));
        }
        pairs();
    }

    /** Two numbers beyond their bounds: what there is not comes ahead of what is outside. */
    private void pairs() {
        for (int i = 0; i < told.length; i++) {
            for (int j = i + 1; j < told.length; j++) {
                if (isFree(i) || isFree(j) || isFixed(i) || isFixed(j)) continue;
                Call call = good.with(i, most[i] + 1L).with(j, least[j] - 1L);
                refused(call, isNumbered(i) || isNumbered(j) ? Due.UNKNOWN : Due.OUTSIDE);
            }
        }
    }

    /** Within all bounds what comes is what the Model says; on a new land there may be nothing to be within. */
    private void within(Call call) {
        for (int i = 0; i < told.length; i++) {
            if (least[i] > most[i]) return;
        }
        int answer = call.on(state.on(new HillLand())), due = call.on(state.on(new Model()));
        Due.is(promise + call, answer, due);
        Due.is(promise + call + " is not beyond bounds", answer == Due.OUTSIDE || answer == Due.UNKNOWN ? 1 : 0, 0);
        if (answer < -100000) changesNothing(call);
    }

    private void beyond(Call call, int i) {
        refused(call, isNumbered(i) || hasNone() ? Due.UNKNOWN : Due.OUTSIDE);
    }

    private boolean hasNone() {
        for (int i = 0; i < told.length; i++) {
            if (isNumbered(i) && least[i] > most[i]) return true;
        }
        return false;
    }

    private void refused(Call call, int due) {
        Due.is(promise + call, call.on(state.on(new HillLand())), due);
    }

    private void changesNothing(Call call) {
        List<Call> calls = new ArrayList<>(state.calls());
        if (untouched == null) untouched = Probe.answers(calls);
        calls.add(call);
        Probe.same("after " + promise + call, Probe.answers(calls), untouched);
    }
}
