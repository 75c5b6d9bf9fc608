import java.util.List;

/** The boundary cases of promises 1, 2 and 16, each under the sentence that names it. */
public final class ReadyEdgesTest {
    private static final String ZEROS_FORTH = "66e94bd4ef8a2c3b884cfa59ca342b2e";
    private static final List<State> NEW = State.that(s -> !s.isReady());
    private static final List<State> ALL = State.that(s -> true);
    private static final Due due = new Due();

    public static void main(String[] args) {
        due.each(
            ReadyEdgesTest::allButInitWantItReady,
            ReadyEdgesTest::aNewKeyIsZeros,
            ReadyEdgesTest::aNewBlockIsZeros,
            ReadyEdgesTest::aNewOneBeforeIsZeros,
            ReadyEdgesTest::initMakesReady,
            ReadyEdgesTest::initClearsTheKey,
            ReadyEdgesTest::initUnmakesTheKey,
            ReadyEdgesTest::initDropsTheMessage,
            ReadyEdgesTest::initKeepsTheBlock,
            ReadyEdgesTest::initKeepsTheOneBefore,
            ReadyEdgesTest::unchainOfAnyOneBefore,
            ReadyEdgesTest::unchainWantsItReady);
        due.close();
    }

    private static void allButInitWantItReady() {
        due.promise(1, "Not ready: all but init wants it to be");
        Refusal.isFalse(due, NEW, "setKeyByte(0, 1)", x -> x.setKeyByte(0, 1));
        Refusal.isFalse(due, NEW, "expand()", x -> x.expand());
        Refusal.isFalse(due, NEW, "macStart()", x -> x.macStart());
        Refusal.isFalse(due, NEW, "macUpdate(1)", x -> x.macUpdate(1));
        Refusal.isFalse(due, NEW, "macFill(0, 0, 0)", x -> x.macFill(0, 0, 0));
        Refusal.isFalse(due, NEW, "macFill(1, 1, 1)", x -> x.macFill(1, 1, 1));
        Refusal.isFalse(due, NEW, "macFinish()", x -> x.macFinish());
        Refusal.isMinusOne(due, NEW, "tagByte(0)", x -> x.tagByte(0));
        Refusal.isFalse(due, NEW, "macCheck(0, 0)", x -> x.macCheck(0, 0));
        Refusal.isFalse(due, NEW, "macVerdict()", x -> x.macVerdict());
        Refusal.isFalse(due, NEW, "setBlockByte(0, 1)", x -> x.setBlockByte(0, 1));
        Refusal.isFalse(due, NEW, "encryptBlock()", x -> x.encryptBlock());
        Refusal.isFalse(due, NEW, "decryptBlock()", x -> x.decryptBlock());
        Refusal.isFalse(due, NEW, "chain(false)", x -> x.chain(false));
        Refusal.isFalse(due, NEW, "chain(true)", x -> x.chain(true));
        Refusal.isFalse(due, NEW, "unchain()", x -> x.unchain());
        Refusal.isMinusOne(due, NEW, "blockByte(0)", x -> x.blockByte(0));
        Refusal.isMinusOne(due, NEW, "half(0, 0)", x -> x.half(0, 0));
        Refusal.isMinusOne(due, NEW, "half(1, 15)", x -> x.half(1, 15));
    }

    private static void aNewKeyIsZeros() {
        due.promise(1, "the key .. zeros");
        BlockCode x = Calls.ready();
        x.expand();
        due.same("first half key", Calls.half(x, 0), Terms.half(Calls.ZEROS, 0));
        due.same("second half key", Calls.half(x, 1), Terms.half(Calls.ZEROS, 1));
    }

    private static void aNewBlockIsZeros() {
        due.promise(1, "the block .. zeros");
        due.same("block", Calls.block(Calls.ready()), Calls.ZEROS);
    }

    private static void aNewOneBeforeIsZeros() {
        due.promise(1, "the one before are zeros");
        BlockCode x = Calls.ready();
        x.expand();
        x.chain(false);
        due.same("zeros chained forth", Calls.block(x), ZEROS_FORTH);
        BlockCode y = Calls.ready();
        y.expand();
        Calls.putBlock(y, ZEROS_FORTH);
        y.chain(true);
        due.same(ZEROS_FORTH + " chained back", Calls.block(y), Calls.ZEROS);
    }

    private static void initMakesReady() {
        due.promise(2, "It is ready from now on");
        for (State state : ALL) {
            BlockCode x = state.object();
            x.init();
            due.yes("setBlockByte(0, 0) after init in " + state, x.setBlockByte(0, 0));
            due.same("blockByte(0) after init in " + state, x.blockByte(0), 0);
            due.yes("unchain() after init in " + state, x.unchain());
            due.yes("setKeyByte(0, 0) after init in " + state, x.setKeyByte(0, 0));
            due.yes("expand() after init in " + state, x.expand());
            due.yes("macStart() after init in " + state, x.macStart());
        }
    }

    private static void initClearsTheKey() {
        due.promise(2, "the key is zeros");
        for (State state : ALL) {
            BlockCode x = state.object();
            x.init();
            x.expand();
            due.same("first half key after init in " + state, Calls.half(x, 0), Terms.half(Calls.ZEROS, 0));
            Calls.putBlock(x, Calls.ZEROS);
            x.encryptBlock();
            due.same("zeros forth after init in " + state, Calls.block(x), ZEROS_FORTH);
        }
    }

    private static void initUnmakesTheKey() {
        due.promise(2, "not made");
        for (State state : ALL) {
            BlockCode x = state.object();
            x.init();
            due.no("macStart() after init in " + state, x.macStart());
            due.no("encryptBlock() after init in " + state, x.encryptBlock());
            due.no("decryptBlock() after init in " + state, x.decryptBlock());
            due.no("chain(false) after init in " + state, x.chain(false));
            due.no("chain(true) after init in " + state, x.chain(true));
            due.same("half 0 after init in " + state, Calls.half(x, 0), Calls.none());
            due.same("half 1 after init in " + state, Calls.half(x, 1), Calls.none());
        }
    }

    private static void initDropsTheMessage() {
        due.promise(2, "no message");
        for (State state : ALL) {
            for (boolean madeAgain : new boolean[] {false, true}) {
                BlockCode x = state.object();
                x.init();
                String at = " after init" + (madeAgain ? " and expand" : "") + " in " + state;
                if (madeAgain) {
                    x.expand();
                }
                hasNoMessage(x, at);
            }
        }
    }

    private static void hasNoMessage(BlockCode x, String at) {
        due.no("macUpdate(0)" + at, x.macUpdate(0));
        due.no("macFill(0, 0, 0)" + at, x.macFill(0, 0, 0));
        due.no("macFinish()" + at, x.macFinish());
        due.same("tag" + at, Calls.tag(x), Calls.none());
        due.no("macCheck(0, 0)" + at, x.macCheck(0, 0));
        due.no("macVerdict()" + at, x.macVerdict());
    }

    private static void initKeepsTheBlock() {
        due.promise(2, "(The block .. stay.)");
        for (State state : State.that(s -> s.isReady())) {
            BlockCode x = state.object();
            x.init();
            due.same("block after init in " + state, Calls.block(x), Calls.block(state.object()));
        }
    }

    /** What a block of zeros' secret becomes when it is chained back is the one before. */
    private static String before(BlockCode x) {
        Calls.putKey(x, Calls.ZEROS);
        x.expand();
        Calls.putBlock(x, ZEROS_FORTH);
        x.chain(true);
        return Calls.block(x);
    }

    private static void initKeepsTheOneBefore() {
        due.promise(2, "(.. and the one before stay.)");
        for (State state : State.that(s -> s.isReady())) {
            BlockCode x = state.object();
            x.init();
            due.same("the one before after init in " + state, before(x), before(state.object()));
        }
        due.no("the one before is zeros in KEY_MADE", before(State.KEY_MADE.object()).equals(Calls.ZEROS));
    }

    private static void unchainOfAnyOneBefore() {
        due.promise(16, "The one before is zeros");
        for (State state : State.that(s -> s.isReady())) {
            BlockCode x = state.object();
            due.yes("unchain() in " + state, x.unchain());
            due.yes("unchain() again in " + state, x.unchain());
            due.same("block after unchain in " + state, Calls.block(x), Calls.block(state.object()));
            due.same("the one before after unchain in " + state, before(x), Calls.ZEROS);
        }
    }

    private static void unchainWantsItReady() {
        due.promise(16, "Wants it ready");
        Refusal.isFalse(due, NEW, "unchain()", x -> x.unchain());
        due.yes("unchain() after init, without a key made", Calls.ready().unchain());
    }
}
