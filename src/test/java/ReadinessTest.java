/** Promises 1, 2 and 16: what an object is like when new, before init and after it. */
public final class ReadinessTest {
    private static final String SOME = "00112233445566778899aabbccddeeff";
    private static final String ZEROS_FORTH = "66e94bd4ef8a2c3b884cfa59ca342b2e";
    private static final Due due = new Due();

    public static void main(String[] args) {
        due.each(
            ReadinessTest::aNewObjectRefusesAllButInit,
            ReadinessTest::aNewObjectIsZeros,
            ReadinessTest::objectsShareNothing,
            ReadinessTest::initMakesReadyAndNoMore,
            ReadinessTest::initClearsTheKey,
            ReadinessTest::initKeepsTheBlockAndTheOneBefore,
            ReadinessTest::unchainClearsTheOneBefore,
            ReadinessTest::unchainLeavesTheRestAlone);
        due.close();
    }

    private static void refusesAll(BlockCode x) {
        due.no("new: setKeyByte(0, 1)", x.setKeyByte(0, 1));
        due.no("new: expand()", x.expand());
        due.no("new: macStart()", x.macStart());
        due.no("new: macUpdate(1)", x.macUpdate(1));
        due.no("new: macFill(1, 1, 1)", x.macFill(1, 1, 1));
        due.no("new: macFill(0, 0, 0)", x.macFill(0, 0, 0));
        due.no("new: macFinish()", x.macFinish());
        due.same("new: tagByte(0)", x.tagByte(0), -1);
        due.no("new: macCheck(0, 0)", x.macCheck(0, 0));
        due.no("new: macVerdict()", x.macVerdict());
        due.no("new: setBlockByte(0, 1)", x.setBlockByte(0, 1));
        due.no("new: encryptBlock()", x.encryptBlock());
        due.no("new: decryptBlock()", x.decryptBlock());
        due.no("new: chain(false)", x.chain(false));
        due.no("new: chain(true)", x.chain(true));
        due.no("new: unchain()", x.unchain());
        due.same("new: blockByte(0)", x.blockByte(0), -1);
        due.same("new: half(0, 0)", x.half(0, 0), -1);
        due.same("new: half(1, 15)", x.half(1, 15), -1);
    }

    private static void aNewObjectRefusesAllButInit() {
        due.promise(1, "Not ready: all but init wants it to be");
        BlockCode x = new BlockCode();
        refusesAll(x);
        refusesAll(x);
        x.init();
        due.same("block after refusals", Calls.block(x), Calls.ZEROS);
        due.no("macFinish() after refusals", x.macFinish());
        due.no("encryptBlock() after refusals", x.encryptBlock());
        x.expand();
        x.encryptBlock();
        due.same("the key after refusals is zeros", Calls.block(x), ZEROS_FORTH);
    }

    private static void aNewObjectIsZeros() {
        due.promise(1, "the key, the block and the one before are zeros");
        BlockCode x = Calls.ready();
        due.same("block", Calls.block(x), Calls.ZEROS);
        x.expand();
        x.encryptBlock();
        due.same("block, forth under the key", Calls.block(x), ZEROS_FORTH);
        x.chain(true);
        due.same("the same back, xored with the one before", Calls.block(x), Calls.ZEROS);
    }

    private static void objectsShareNothing() {
        due.promise(1, "A new object: what another one does is not seen in it");
        BlockCode x = Calls.made(Calls.KEY);
        x.macStart();
        BlockCode y = Calls.made(SOME);
        Calls.putBlock(y, SOME);
        y.chain(false);
        Calls.code(y, SOME);
        x.macFinish();
        due.same("code of x beside y", Calls.tag(x), "bb1d6929e95937287fa37d129b756746");
        due.same("block of x beside y", Calls.block(x), Calls.ZEROS);
        due.same("block of a third", Calls.block(Calls.ready()), Calls.ZEROS);
    }

    private static void initMakesReadyAndNoMore() {
        due.promise(2, "It is ready from now on; the key is .. not made; no message");
        BlockCode x = Calls.ready();
        due.no("init: macStart()", x.macStart());
        due.no("init: macUpdate(0)", x.macUpdate(0));
        due.no("init: macFill(0, 0, 0)", x.macFill(0, 0, 0));
        due.no("init: macFinish()", x.macFinish());
        due.no("init: macCheck(0, 0)", x.macCheck(0, 0));
        due.no("init: macVerdict()", x.macVerdict());
        due.no("init: encryptBlock()", x.encryptBlock());
        due.no("init: decryptBlock()", x.decryptBlock());
        due.no("init: chain(false)", x.chain(false));
        due.no("init: chain(true)", x.chain(true));
        due.same("init: half(0, 0)", x.half(0, 0), -1);
        due.same("init: tagByte(0)", x.tagByte(0), -1);
        due.yes("init: setBlockByte(0, 1)", x.setBlockByte(0, 1));
        due.yes("init: unchain()", x.unchain());
        due.yes("init: setKeyByte(0, 1)", x.setKeyByte(0, 1));
        due.yes("init: expand()", x.expand());
    }

    private static void initClearsTheKey() {
        due.promise(2, "the key is zeros");
        BlockCode x = Calls.made(Calls.KEY);
        x.init();
        x.expand();
        due.same("first half key", Calls.half(x, 0), "cdd297a9df1458771099f4b39468565c");
        x.encryptBlock();
        due.same("zeros forth", Calls.block(x), ZEROS_FORTH);
    }

    private static void initKeepsTheBlockAndTheOneBefore() {
        due.promise(2, "(The block and the one before stay.)");
        BlockCode x = Calls.made(Calls.ZEROS);
        Calls.putBlock(x, SOME);
        x.chain(false);
        String before = Calls.block(x);
        x.init();
        due.same("block after init", Calls.block(x), before);
        x.expand();
        x.chain(false);
        due.same("the block, which is the one before too, chained forth", Calls.block(x), ZEROS_FORTH);
    }

    private static void unchainClearsTheOneBefore() {
        due.promise(16, "The one before is zeros");
        BlockCode x = Calls.made(Calls.ZEROS);
        Calls.putBlock(x, SOME);
        x.chain(false);
        due.yes("unchain()", x.unchain());
        Calls.putBlock(x, Calls.ZEROS);
        x.chain(false);
        due.same("chain(false) after unchain", Calls.block(x), ZEROS_FORTH);
        x.unchain();
        x.chain(true);
        due.same("chain(true) after unchain", Calls.block(x), Calls.ZEROS);
    }

    private static void unchainLeavesTheRestAlone() {
        due.promise(16, "The one before is zeros, and nothing else changes");
        BlockCode x = Calls.made(Calls.KEY);
        Calls.putBlock(x, SOME);
        x.macStart();
        x.macUpdate(0x6b);
        x.unchain();
        due.same("block after unchain", Calls.block(x), SOME);
        due.same("first half key after unchain", Calls.half(x, 0), "fbeed618357133667c85e08f7236a8de");
        Calls.feed(x, "c1bee22e409f96e93d7e117393172a");
        x.macFinish();
        x.unchain();
        due.same("code after unchain", Calls.tag(x), "070a16b46b4d4144f79bdd9dd04a287c");
    }
}
