/** Promises 1, 2 and 16: what an object is like when new, before init and after it. */
public final class ReadinessTest {
    private static final String SOME = "00112233445566778899aabbccddeeff";
    private static final Due due = new Due();

    public static void main(String[] args) {
        due.each(
            ReadinessTest::refusedCallsOnANewObjectLeaveNothing,
            ReadinessTest::initMakesReadyAndNoMore,
            ReadinessTest::initKeepsTheOneBefore,
            ReadinessTest::unchainClearsTheOneBefore,
            ReadinessTest::objectsShareNothing);
        due.close();
    }

    private static void refusesAll(BlockCode x) {
        due.no("new: setKeyByte(0, 1)", x.setKeyByte(0, 1));
        due.no("new: expand()", x.expand());
        due.no("new: macStart()", x.macStart());
        due.no("new: macUpdate(1)", x.macUpdate(1));
        due.no("new: macFill(1, 1, 1)", x.macFill(1, 1, 1));
        due.no("new: macFill(0, 0, 0)", x.macFill(0, 0, 0));
        due.no("new: macFinish()", x.macFinish());
        due.same("new: tagByte(0)", x.tagByte(0), -1);
        due.no("new: macCheck(0, 0)", x.macCheck(0, 0));
        due.no("new: macVerdict()", x.macVerdict());
        due.no("new: setBlockByte(0, 1)", x.setBlockByte(0, 1));
        due.no("new: encryptBlock()", x.encryptBlock());
        due.no("new: decryptBlock()", x.decryptBlock());
        due.no("new: chain(false)", x.chain(false));
        due.no("new: chain(true)", x.chain(true));
        due.no("new: unchain()", x.unchain());
        due.same("new: blockByte(0)", x.blockByte(0), -1);
        due.same("new: half(0, 0)", x.half(0, 0), -1);
        due.same("new: half(1, 15)", x.half(1, 15), -1);
    }

    private static void refusedCallsOnANewObjectLeaveNothing() {
        BlockCode x = new BlockCode();
        refusesAll(x);
        x.init();
        due.same("block after refusals", Calls.block(x), Calls.ZEROS);
        due.no("macFinish() after refusals", x.macFinish());
        due.no("encryptBlock() after refusals", x.encryptBlock());
        x.expand();
        x.encryptBlock();
        due.same("the key after refusals is zeros", Calls.block(x), "66e94bd4ef8a2c3b884cfa59ca342b2e");
    }

    private static void initMakesReadyAndNoMore() {
        BlockCode x = Calls.ready();
        due.no("init: macStart()", x.macStart());
        due.no("init: macUpdate(0)", x.macUpdate(0));
        due.no("init: macFill(0, 0, 0)", x.macFill(0, 0, 0));
        due.no("init: macFinish()", x.macFinish());
        due.no("init: macCheck(0, 0)", x.macCheck(0, 0));
        due.no("init: macVerdict()", x.macVerdict());
        due.no("init: encryptBlock()", x.encryptBlock());
        due.no("init: decryptBlock()", x.decryptBlock());
        due.no("init: chain(false)", x.chain(false));
        due.no("init: chain(true)", x.chain(true));
        due.same("init: half(0, 0)", x.half(0, 0), -1);
        due.same("init: tagByte(0)", x.tagByte(0), -1);
        due.yes("init: setBlockByte(0, 1)", x.setBlockByte(0, 1));
        due.yes("init: unchain()", x.unchain());
        due.yes("init: setKeyByte(0, 1)", x.setKeyByte(0, 1));
        due.yes("init: expand()", x.expand());
    }

    private static void initKeepsTheOneBefore() {
        BlockCode x = Calls.made(Calls.ZEROS);
        Calls.putBlock(x, SOME);
        x.chain(false);
        String before = Calls.block(x);
        x.init();
        x.expand();
        Calls.putBlock(x, before);
        x.chain(false);
        due.same("init keeps the one before", Calls.block(x), "66e94bd4ef8a2c3b884cfa59ca342b2e");
    }

    private static void unchainClearsTheOneBefore() {
        BlockCode x = Calls.made(Calls.ZEROS);
        Calls.putBlock(x, SOME);
        x.chain(false);
        String block = Calls.block(x);
        due.yes("unchain()", x.unchain());
        due.same("unchain leaves the block", Calls.block(x), block);
        Calls.putBlock(x, Calls.ZEROS);
        x.chain(false);
        due.same("chain(false) after unchain", Calls.block(x), "66e94bd4ef8a2c3b884cfa59ca342b2e");
        x.unchain();
        x.chain(true);
        due.same("chain(true) after unchain", Calls.block(x), Calls.ZEROS);
    }

    private static void objectsShareNothing() {
        BlockCode x = Calls.made(Calls.KEY);
        x.macStart();
        BlockCode y = Calls.made(SOME);
        Calls.putBlock(y, SOME);
        y.chain(false);
        Calls.code(y, SOME);
        x.macFinish();
        due.same("code of x beside y", Calls.tag(x), "bb1d6929e95937287fa37d129b756746");
        due.same("block of x beside y", Calls.block(x), Calls.ZEROS);
    }
}
