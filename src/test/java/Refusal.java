import java.util.List;
import java.util.function.Consumer;
import java.util.function.Predicate;
import java.util.function.ToIntFunction;

/** "Calls answer false (or -1) when something is not as they want it, and nothing changes then." */
final class Refusal {
    private Refusal() {
    }

    static void isFalse(Due due, List<State> states, String text, Predicate<BlockCode> call) {
        for (State state : states) {
            due.no(text + " in " + state, call.test(state.object()));
            changesNothing(due, state, text, call::test);
        }
    }

    static void isMinusOne(Due due, List<State> states, String text, ToIntFunction<BlockCode> call) {
        for (State state : states) {
            due.same(text + " in " + state, call.applyAsInt(state.object()), -1);
            changesNothing(due, state, text, call::applyAsInt);
        }
    }

    /** One object has the call and its twin has not: no probe may tell them apart. */
    static void changesNothing(Due due, State state, String text, Consumer<BlockCode> call) {
        for (Probe probe : Probe.values()) {
            BlockCode called = state.object();
            call.accept(called);
            String want = probe.of(state.object());
            due.same(text + " in " + state + ", then " + probe, probe.of(called), want);
        }
    }
}
