import java.util.ArrayList;
import java.util.List;

/** What is refused: which refusal comes first where several are due, and that it changes nothing that later calls answer. */
public final class RefusalsTest {
    private static final int UNKNOWN = Due.UNKNOWN, OUTSIDE = Due.OUTSIDE, NOT = Due.NOT, FULL = Due.FULL, LARGE = Due.LARGE;
    private static final String SOFAR = "sight 2 0 3 2 1 4", APART = "sight 2 0 3 2 5 6";

    public static void main(String[] args) {
        nothingThereYet();
        some();
        nearly();
        full();
        stories();
        drawings();
        faultyReads();
        Due.end();
    }

    /** In a state, after some more calls, the last of these is refused, and whatever is asked then is as without it. */
    private static void refused(int want, State state, String... more) {
        List<Call> calls = new ArrayList<>(state.calls());
        for (int i = 0; i < more.length - 1; i++) calls.add(Call.of(more[i]));
        int[][] untouched = Probe.answers(calls);
        HillLand x = new HillLand();
        for (Call call : calls) call.on(x);
        Call last = Call.of(more[more.length - 1]);
        Due.is(last + " with " + state, last.on(x), want);
        Due.is(last + " again with " + state, last.on(x), want);
        calls.add(last);
        Probe.same("after " + last + " with " + state, Probe.answers(calls), untouched);
    }

    private static void nothingThereYet() {
        refused(NOT, State.NEW, "undo");
        refused(NOT, State.NEW, "forget");
        refused(UNKNOWN, State.NEW, "told 0 0");
        refused(UNKNOWN, State.NEW, "told 0 7");
        refused(UNKNOWN, State.NEW, "loose 0 1");
        refused(UNKNOWN, State.NEW, "swap 0");
        refused(UNKNOWN, State.NEW, "swap -1");
        refused(UNKNOWN, State.NEW, "event 0 1 1 0 0 0", "swap 0");
        refused(UNKNOWN, State.NEW, "back 0");
        refused(UNKNOWN, State.NEW, "differ 0 0");
        refused(UNKNOWN, State.NEW, "differ 3 4");
        refused(UNKNOWN, State.NEW, "met 0");
        refused(OUTSIDE, State.NEW, "was 1 0 0 0");
        refused(OUTSIDE, State.NEW, "unmet 1 0");
        refused(OUTSIDE, State.NEW, "stories 1");
        refused(OUTSIDE, State.NEW, "story 1 0 0");
        refused(OUTSIDE, State.NEW, "next 1 0");
        refused(OUTSIDE, State.NEW, "take 1 0");
        refused(OUTSIDE, State.NEW, "draw 0 0 0 1 0");
        refused(NOT, State.NEW, "take 0 1");
        refused(NOT, State.NEW, "take -1 -1");
        refused(NOT, State.NEW, "sight 0 0 0 1 0 0", "next -1 0");
        refused(NOT, State.NEW, "sight 0 0 0 1 0 0", "take 1 0");
    }

    private static void some() {
        refused(UNKNOWN, State.SOME, "told 5 0");
        refused(UNKNOWN, State.SOME, "told 5 -1");
        refused(OUTSIDE, State.SOME, "told 4 7");
        refused(UNKNOWN, State.SOME, "loose 5 0");
        refused(UNKNOWN, State.SOME, "swap 4");
        refused(UNKNOWN, State.SOME, "back 1");
        refused(UNKNOWN, State.SOME, "back 4");
        refused(UNKNOWN, State.SOME, "differ 1 4");
        refused(OUTSIDE, State.SOME, "differ 2 4");
        refused(OUTSIDE, State.SOME, "keep 4");
        refused(UNKNOWN, State.SOME, "met 6");
        refused(OUTSIDE, State.SOME, "unmet 7 0");
        refused(OUTSIDE, State.SOME, "was 6 3 3 0");
        refused(OUTSIDE, State.SOME, "sight 3 7 3 2 0 1");
        refused(OUTSIDE, State.SOME, "sight 2 3 3 2 4 3");
        refused(OUTSIDE, State.SOME, "claim 4 4 1");
        refused(OUTSIDE, State.SOME, "event 5 3 1 4 3 0");
        refused(OUTSIDE, State.SOME, "maybe 5 3 1 4 3 0");
        refused(OUTSIDE, State.SOME, "sure 4 2 2");
        refused(OUTSIDE, State.SOME, "youth 15");
    }

    /** One more of each there is room for, and then none. */
    private static void nearly() {
        refused(FULL, State.NEARLY, "event 0 1 1 0 0 0", "event 1 0 0 0 0 0", "event 0 1 1 0 0 0", "event 1 0 0 0 0 0", "event 0 2 1 0 0 0");
        refused(FULL, State.NEARLY, "sight 0 0 0 1 0 0", "sight 0 0 0 1 0 0");
        refused(FULL, State.NEARLY, "claim 0 1 99", "claim 0 1 99");
        refused(FULL, State.NEARLY, "maybe 1 0 0 0 0 0");
        refused(FULL, State.SOME, "maybe 1 0 0 0 0 0", "maybe 1 0 0 0 0 0");
        refused(FULL, State.NEARLY, "feed 8 0", "feed 1 0");
        refused(FULL, State.NEARLY, "feed 7 0", "feed 2 0");
        refused(FULL, State.NEARLY, "feed 1 0", "feed 8 0");
        refused(LARGE, State.NEARLY, "loose 11 1", "amount 2 1");
        refused(LARGE, State.NEARLY, "loose 11 1", "amount 2 2");
    }

    private static void full() {
        refused(FULL, State.FULL, "event 0 0 1 0 0 0");
        refused(OUTSIDE, State.FULL, "event 0 15 1 0 0 0");
        refused(OUTSIDE, State.FULL, "event 6 0 1 0 0 0");
        refused(UNKNOWN, State.FULL, "told 16 7");
        refused(UNKNOWN, State.FULL, "loose 16 1");
        refused(UNKNOWN, State.FULL, "swap 15");
        refused(FULL, State.FULL, "feed 1 59");
        refused(FULL, State.FULL, "feed 8 0");
        refused(OUTSIDE, State.FULL, "feed 0 0");
        refused(OUTSIDE, State.FULL, "feed 9 0");
        refused(LARGE, State.FULL, "amount 0 1");
        refused(LARGE, State.FULL, "amount 15 2");
        refused(OUTSIDE, State.FULL, "amount 16 1");
        refused(OUTSIDE, State.FULL, "amount -1 2");
        refused(OUTSIDE, State.FULL, "amount 0 3");
        refused(FULL, State.FULL, "sight 4 7 7 15 15 0");
        refused(OUTSIDE, State.FULL, "sight 4 7 7 15 16 0");
        refused(OUTSIDE, State.FULL, "sight 3 7 7 15 0 0");
        refused(FULL, State.FULL, "claim 7 0 99");
        refused(OUTSIDE, State.FULL, "claim 7 7 99");
        refused(OUTSIDE, State.FULL, "claim 7 0 100");
        refused(FULL, State.FULL, "maybe 4 39 8 8 0 0");
        refused(OUTSIDE, State.FULL, "maybe 4 40 8 8 0 0");
        refused(UNKNOWN, State.FULL, "met 30");
        refused(OUTSIDE, State.FULL, "was 17 0 0 0");
        refused(OUTSIDE, State.FULL, "unmet 31 0");
        refused(OUTSIDE, State.FULL, "draw 2 0 3 31 0");
    }

    /** OUTSIDE, FULL, NOT, in this order; with 16 events all that may be is one too many. */
    private static void stories() {
        refused(OUTSIDE, State.FULL, "stories 31");
        refused(FULL, State.FULL, "stories 30");
        refused(FULL, State.FULL, "stories 0");
        refused(OUTSIDE, State.FULL, "story -2 0 0");
        refused(FULL, State.FULL, "story 30 -1 -2");
        refused(OUTSIDE, State.FULL, "next 31 0");
        refused(OUTSIDE, State.FULL, "next 0 3");
        refused(OUTSIDE, State.FULL, "next -2 -1");
        refused(FULL, State.FULL, "next -1 0");
        refused(OUTSIDE, State.FULL, "take 31 -1");
        refused(FULL, State.FULL, "take 0 -1");
        refused(FULL, State.FULL, "take -1 0");
        refused(OUTSIDE, State.NEARLY, "next -1 3");
        refused(NOT, State.NEARLY, "next -1 0");
        refused(NOT, State.NEARLY, "next 29 2");
        refused(NOT, State.NEARLY, "take -1 0");
        refused(NOT, State.NEARLY, "take 0 65");
        refused(NOT, State.NEARLY, "take 0 -1");
        refused(FULL, State.NEARLY, "event 1 0 0 0 0 0", "stories 0");
        refused(FULL, State.NEARLY, "event 1 0 0 0 0 0", "story 0 0 -1");
        refused(FULL, State.NEARLY, "event 1 0 0 0 0 0", "next -1 1");
        refused(FULL, State.NEARLY, "event 1 0 0 0 0 0", "take 0 0");
    }

    private static void drawings() {
        refused(NOT, State.NEW, SOFAR, APART, "draw 2 0 3 -1 -1");
        refused(NOT, State.NEW, SOFAR, APART, "draw 2 0 3 2 7");
        refused(OUTSIDE, State.NEW, SOFAR, APART, "draw 2 0 3 3 0");
        refused(OUTSIDE, State.NEW, SOFAR, APART, "draw 2 0 3 -1 8");
        refused(OUTSIDE, State.NEW, SOFAR, APART, "draw 2 0 3 -1 -2");
        refused(OUTSIDE, State.NEW, SOFAR, APART, "draw 2 2 3 -1 0");
        // what was drawn ahead of the refusal is drawn again
        refused(NOT, State.NEW, SOFAR, "draw 2 0 3 -1 0", APART, "draw 2 0 3 -1 0");
        refused(NOT, State.NEARLY, "draw 2 0 3 -1 0", "sight 2 4 3 2 39 39", "draw 2 0 3 -1 0");
    }

    /** A text with a FAULT leaves nothing of itself but the FAULT: all else is as the Model says. */
    private static void faultyReads() {
        faultyRead(State.NEARLY, "read");
        faultyRead(State.FULL, "read", "feed 1 59", "read");
        for (State state : List.of(State.NEW, State.SOME)) {
            faultyRead(state, "feed 1 59", "read");
            faultyRead(state, "read", "feed 8 " + text("lay 1 1;"), "feed 4 " + text("cut;"), "read");
            faultyRead(state, "read", "feed 8 " + text("lay 9 99"), "read");
            faultyRead(state, "read", "feed 3 " + text("dyk"), "read", "read", "feed 1 45", "read");
        }
    }

    private static long text(String text) {
        long packed = 0;
        for (int i = 0; i < text.length(); i++) packed = packed << 8 | text.charAt(i);
        return packed;
    }

    private static void faultyRead(State state, String... more) {
        List<Call> calls = new ArrayList<>(state.calls());
        for (String call : more) calls.add(Call.of(call));
        Probe.same("after " + String.join(", ", more) + " with " + state, Probe.answers(calls), Probe.answers(Model::new, calls));
    }
}
