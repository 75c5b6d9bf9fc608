import java.util.ArrayList;
import java.util.List;
import java.util.function.Consumer;
import java.util.function.Predicate;

/**
 * The states that the document tells apart, each with calls that lead there. All but the first two have a block
 * and a one before that are not zeros, so that a change of either can be seen.
 */
enum State {
    NEW(Stage.NEW, x -> { }),
    AFTER_INIT(Stage.READY, x -> x.init()),
    INIT_AGAIN(Stage.READY, x -> {
        keyMade(x);
        x.init();
    }),
    KEY_NOT_MADE(Stage.READY, x -> keySet(x)),
    KEY_CHANGED_IN_A_MESSAGE(Stage.READY, x -> {
        begun(x, 5);
        x.setKeyByte(0, 0x2b);
    }),
    KEY_CHANGED_AFTER_A_CODE(Stage.READY, x -> {
        ended(x);
        compareRightly(x, 16);
        x.setKeyByte(15, 0x3c);
    }),
    KEY_MADE(Stage.MADE, x -> keyMade(x)),
    KEY_MADE_AGAIN_AFTER_A_MESSAGE(Stage.MADE, x -> {
        begun(x, 5);
        x.setKeyByte(0, 0x2b);
        x.expand();
    }),
    KEY_MADE_AGAIN_AFTER_A_CODE(Stage.MADE, x -> {
        ended(x);
        compareRightly(x, 16);
        x.setKeyByte(15, 0x3c);
        x.expand();
    }),
    EMPTY_MESSAGE(Stage.OPEN, x -> begun(x, 0)),
    MESSAGE_OF_5(Stage.OPEN, x -> begun(x, 5)),
    MESSAGE_OF_15(Stage.OPEN, x -> begun(x, 15)),
    MESSAGE_OF_16(Stage.OPEN, x -> begun(x, 16)),
    MESSAGE_OF_17(Stage.OPEN, x -> begun(x, 17)),
    MESSAGE_AFTER_A_CODE(Stage.OPEN, x -> {
        ended(x);
        compareRightly(x, 16);
        x.macStart();
        x.macFill(3, 1, 1);
    }),
    ENDED(Stage.ENDED, x -> ended(x)),
    ENDED_EMPTY(Stage.ENDED, x -> {
        begun(x, 0);
        x.macFinish();
    }),
    COMPARED_BUT_FOR_ONE(Stage.ENDED, x -> {
        ended(x);
        compareRightly(x, 15);
    }),
    COMPARED(Stage.ENDED, x -> {
        ended(x);
        compareRightly(x, 16);
    }),
    COMPARED_AND_OTHER(Stage.ENDED, x -> {
        ended(x);
        compareRightly(x, 16);
        x.macCheck(4, x.tagByte(4) ^ 1);
    });

    private enum Stage { NEW, READY, MADE, OPEN, ENDED }

    private final Stage stage;
    private final Consumer<BlockCode> steps;

    State(Stage stage, Consumer<BlockCode> steps) {
        this.stage = stage;
        this.steps = steps;
    }

    BlockCode object() {
        BlockCode x = new BlockCode();
        steps.accept(x);
        return x;
    }

    boolean isReady() {
        return stage != Stage.NEW;
    }

    boolean hasKeyMade() {
        return stage == Stage.MADE || stage == Stage.OPEN || stage == Stage.ENDED;
    }

    /** A message that has begun and has not ended. */
    boolean hasOpenMessage() {
        return stage == Stage.OPEN;
    }

    boolean hasCode() {
        return stage == Stage.ENDED;
    }

    static List<State> that(Predicate<State> wanted) {
        List<State> found = new ArrayList<>();
        for (State state : values()) {
            if (wanted.test(state)) {
                found.add(state);
            }
        }
        return found;
    }

    private static void keySet(BlockCode x) {
        x.init();
        x.expand();
        Calls.putBlock(x, "00112233445566778899aabbccddeeff");
        x.chain(false);
        Calls.putBlock(x, "f0e1d2c3b4a5968778695a4b3c2d1e0f");
        Calls.putKey(x, Calls.KEY);
    }

    /** The chain is behind the last expand, so that an expand that cut it would not have done so already. */
    private static void keyMade(BlockCode x) {
        keySet(x);
        x.expand();
        x.chain(true);
    }

    private static void begun(BlockCode x, int length) {
        keyMade(x);
        x.macStart();
        x.macFill(length, 200, 7);
    }

    private static void ended(BlockCode x) {
        begun(x, 21);
        x.macFinish();
    }

    private static void compareRightly(BlockCode x, int bytes) {
        for (int i = 0; i < bytes; i++) {
            x.macCheck(i, x.tagByte(i));
        }
    }
}
