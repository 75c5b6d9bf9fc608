import java.util.HexFormat;
import java.util.Random;
import java.util.function.Predicate;

/** Promises 12, 13, 14 and 17: the block's bytes, and the block forth and back. */
public final class CipherTest {
    /** FIPS 197 (B and C.1), NIST SP 800-38A (F.1.1), and the least and the greatest of all: key, plain, secret. */
    private static final String[][] KNOWN = {
        {Calls.KEY, "3243f6a8885a308d313198a2e0370734", "3925841d02dc09fbdc118597196a0b32"},
        {"000102030405060708090a0b0c0d0e0f", "00112233445566778899aabbccddeeff", "69c4e0d86a7b0430d8cdb78070b4c55a"},
        {Calls.KEY, "6bc1bee22e409f96e93d7e117393172a", "3ad77bb40d7a3660a89ecaf32466ef97"},
        {Calls.KEY, "ae2d8a571e03ac9c9eb76fac45af8e51", "f5d3d58503b9699de785895a96fdbaaf"},
        {Calls.ZEROS, Calls.ZEROS, "66e94bd4ef8a2c3b884cfa59ca342b2e"},
        {"ff".repeat(16), "ff".repeat(16), "bcbf217cb280cf30b2517052193ab979"}};
    private static final Due due = new Due();

    public static void main(String[] args) {
        due.each(
            CipherTest::eachByteOfTheBlockIsPut,
            CipherTest::knownBlocksForth,
            CipherTest::manyBlocksForth,
            CipherTest::forthLeavesTheRestAlone,
            CipherTest::knownBlocksBack,
            CipherTest::manyBlocksBack,
            CipherTest::backLeavesTheRestAlone,
            CipherTest::eachByteOfTheBlockIsSeen);
        due.close();
    }

    private static void eachByteOfTheBlockIsPut() {
        due.promise(12, "Byte i of the block is b");
        BlockCode x = Calls.ready();
        for (int b : new int[] {255, 128, 127, 1, 0}) {
            for (int i = 0; i < 16; i++) {
                int other = (i + 1) % 16;
                int beside = x.blockByte(other);
                due.yes("setBlockByte(" + i + ", " + b + ")", x.setBlockByte(i, b));
                due.same("blockByte(" + i + ")", x.blockByte(i), b);
                due.same("blockByte(" + other + ")", x.blockByte(other), beside);
            }
        }
    }

    private static void goesForth(String key, String block, String want) {
        BlockCode x = Calls.made(key);
        Calls.putBlock(x, block);
        due.yes("encryptBlock()", x.encryptBlock());
        due.same(block + " forth under " + key, Calls.block(x), want);
        due.yes("encryptBlock() once more", x.encryptBlock());
        due.same(block + " forth twice under " + key, Calls.block(x), new Oracle(key).forth(want));
    }

    private static void goesBack(String key, String block, String want) {
        BlockCode x = Calls.made(key);
        Calls.putBlock(x, block);
        due.yes("decryptBlock()", x.decryptBlock());
        due.same(block + " back under " + key, Calls.block(x), want);
        due.yes("decryptBlock() once more", x.decryptBlock());
        due.same(block + " back twice under " + key, Calls.block(x), new Oracle(key).back(want));
    }

    private static void knownBlocksForth() {
        due.promise(13, "The block goes forth");
        for (String[] known : KNOWN) {
            goesForth(known[0], known[1], known[2]);
        }
    }

    private static void knownBlocksBack() {
        due.promise(14, "The block goes back");
        for (String[] known : KNOWN) {
            goesBack(known[0], known[2], known[1]);
        }
    }

    private static String bytes(Random random) {
        byte[] bytes = new byte[16];
        random.nextBytes(bytes);
        return HexFormat.of().formatHex(bytes);
    }

    /** Enough blocks that every byte goes through S in every place. */
    private static void manyBlocksForth() {
        due.promise(13, "The block goes forth: many blocks under many keys");
        Random random = new Random(13);
        for (int run = 0; run < 500; run++) {
            String key = bytes(random);
            String block = bytes(random);
            goesForth(key, block, new Oracle(key).forth(block));
        }
    }

    private static void manyBlocksBack() {
        due.promise(14, "The block goes back: many blocks under many keys");
        Random random = new Random(14);
        for (int run = 0; run < 500; run++) {
            String key = bytes(random);
            String block = bytes(random);
            goesBack(key, block, new Oracle(key).back(block));
        }
    }

    /** The way is gone in a message, after its code, and before a chain begins. */
    private static void leavesTheRestAlone(Predicate<BlockCode> way) {
        BlockCode x = Calls.made(Calls.KEY);
        x.macStart();
        x.macUpdate(0x6b);
        due.yes("in a message", way.test(x));
        x.setBlockByte(5, 5);
        Calls.feed(x, "c1bee22e409f96e93d7e117393172a");
        due.yes("behind a whole block of a message", way.test(x));
        x.macFinish();
        due.yes("after a code", way.test(x));
        due.same("code beside the block", Calls.tag(x), "070a16b46b4d4144f79bdd9dd04a287c");
        due.same("first half key beside the block", Calls.half(x, 0), "fbeed618357133667c85e08f7236a8de");
        Calls.putBlock(x, "6bc1bee22e409f96e93d7e117393172a");
        x.chain(false);
        due.same("the one before is zeros still", Calls.block(x), "3ad77bb40d7a3660a89ecaf32466ef97");
    }

    private static void forthLeavesTheRestAlone() {
        due.promise(13, "The block goes forth, and nothing else changes");
        leavesTheRestAlone(x -> x.encryptBlock());
    }

    private static void backLeavesTheRestAlone() {
        due.promise(14, "The block goes back, and nothing else changes");
        leavesTheRestAlone(x -> x.decryptBlock());
    }

    private static void eachByteOfTheBlockIsSeen() {
        due.promise(17, "Byte i of the block");
        BlockCode x = Calls.made(Calls.KEY);
        Calls.putBlock(x, "6bc1bee22e409f96e93d7e117393172a");
        due.same("block as it was put", Calls.block(x), "6bc1bee22e409f96e93d7e117393172a");
        x.encryptBlock();
        due.same("block as it went forth", Calls.block(x), "3ad77bb40d7a3660a89ecaf32466ef97");
        due.same("block, looked at again", Calls.block(x), "3ad77bb40d7a3660a89ecaf32466ef97");
    }
}
