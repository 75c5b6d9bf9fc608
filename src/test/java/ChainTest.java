import java.util.HexFormat;

/** Promise 15: the block chained, forth and back. */
public final class ChainTest {
    private static final String VECTOR = "000102030405060708090a0b0c0d0e0f";
    /** NIST SP 800-38A (F.2.1 and F.2.2). */
    private static final String[] PLAIN = {
        "6bc1bee22e409f96e93d7e117393172a", "ae2d8a571e03ac9c9eb76fac45af8e51",
        "30c81c46a35ce411e5fbc1191a0a52ef", "f69f2445df4f9b17ad2b417be66c3710"};
    private static final String[] SECRET = {
        "7649abac8119b246cee98e9b12e9197d", "5086cb9b507219ee95db113a917678b2",
        "73bed6b8e3c1743b7116e69e22229516", "3ff1caa1681fac09120eca307586e1a7"};
    private static final Due due = new Due();

    public static void main(String[] args) {
        due.each(
            ChainTest::knownChainForth,
            ChainTest::knownChainBack,
            ChainTest::chainsAfterUnchain,
            ChainTest::forthAndBackTakeTurns,
            ChainTest::theChainLeavesTheMessageAlone,
            ChainTest::aKeyChangeKeepsTheOneBefore);
        due.close();
    }

    /** There is no call that sets the one before: going back once in a chain leaves the block there as it was. */
    private static BlockCode chainedFrom(String before) {
        BlockCode x = Calls.made(Calls.KEY);
        Calls.putBlock(x, before);
        x.chain(true);
        return x;
    }

    private static void knownChainForth() {
        due.promise(15, "forth: the block is xored with the one before, goes forth, and that is the one before then");
        BlockCode x = chainedFrom(VECTOR);
        for (int k = 0; k < PLAIN.length; k++) {
            Calls.putBlock(x, PLAIN[k]);
            due.yes("chain(false)", x.chain(false));
            due.same(PLAIN[k] + " chained forth", Calls.block(x), SECRET[k]);
        }
    }

    private static void knownChainBack() {
        due.promise(15, "Back: it goes back, and is xored with the one before; as it was it is the one before then");
        BlockCode x = chainedFrom(VECTOR);
        for (int k = 0; k < PLAIN.length; k++) {
            Calls.putBlock(x, SECRET[k]);
            due.yes("chain(true)", x.chain(true));
            due.same(SECRET[k] + " chained back", Calls.block(x), PLAIN[k]);
        }
    }

    private static void chainsAfterUnchain() {
        due.promise(15, "CHAINED: what went forth in a chain from zeros goes back in one");
        BlockCode x = Calls.made(Calls.KEY);
        String[] secret = new String[PLAIN.length];
        for (int k = 0; k < PLAIN.length; k++) {
            Calls.putBlock(x, PLAIN[k]);
            x.chain(false);
            secret[k] = Calls.block(x);
        }
        due.same("first of a chain from zeros", secret[0], "3ad77bb40d7a3660a89ecaf32466ef97");
        x.unchain();
        for (int k = 0; k < PLAIN.length; k++) {
            Calls.putBlock(x, secret[k]);
            x.chain(true);
            due.same(secret[k] + " chained back from zeros", Calls.block(x), PLAIN[k]);
        }
    }

    /** The block is left as it is between the calls, and the ways are mixed. */
    private static void forthAndBackTakeTurns() {
        due.promise(15, "CHAINED: forth and back in turns, by one and the same one before");
        Oracle oracle = new Oracle(Calls.KEY);
        BlockCode x = Calls.made(Calls.KEY);
        Calls.putBlock(x, PLAIN[0]);
        byte[] block = HexFormat.of().parseHex(PLAIN[0]);
        byte[] before = new byte[16];
        for (int k = 0; k < 24; k++) {
            boolean back = k % 3 == 1 || k % 7 == 2;
            byte[] was = block;
            block = back ? Oracle.xored(oracle.back(block), before) : oracle.forth(Oracle.xored(block, before));
            before = back ? was : block;
            due.yes("chain(" + back + ")", x.chain(back));
            due.same("chain step " + k, Calls.block(x), HexFormat.of().formatHex(block));
        }
    }

    private static void theChainLeavesTheMessageAlone() {
        due.promise(15, "CHAINED: the block and the one before, and nothing else changes");
        BlockCode x = chainedFrom(VECTOR);
        x.macStart();
        Calls.feed(x, "6bc1bee22e409f96");
        x.chain(false);
        x.chain(true);
        x.unchain();
        Calls.feed(x, "e93d7e117393172a");
        x.macFinish();
        x.chain(true);
        x.chain(false);
        due.same("code beside a chain", Calls.tag(x), "070a16b46b4d4144f79bdd9dd04a287c");
    }

    private static void aKeyChangeKeepsTheOneBefore() {
        due.promise(15, "the one before: that of a chain under another key");
        BlockCode x = Calls.made(Calls.ZEROS);
        Calls.putBlock(x, VECTOR);
        x.chain(true);
        Calls.putKey(x, Calls.KEY);
        x.expand();
        Calls.putBlock(x, PLAIN[0]);
        x.chain(false);
        due.same("the one before under another key", Calls.block(x), SECRET[0]);
    }
}
