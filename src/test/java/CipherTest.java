import java.util.HexFormat;
import java.util.Random;

/** Promises 12, 13, 14 and 17: the block's bytes, and the block forth and back. */
public final class CipherTest {
    private static final Due due = new Due();

    public static void main(String[] args) {
        due.each(
            CipherTest::eachByteOfTheBlockIsHeld,
            CipherTest::knownBlocks,
            CipherTest::manyBlocks,
            CipherTest::theWaysLeaveTheRestAlone);
        due.close();
    }

    private static void eachByteOfTheBlockIsHeld() {
        BlockCode x = Calls.ready();
        for (int b : new int[] {255, 128, 127, 1, 0}) {
            for (int i = 0; i < 16; i++) {
                int other = (i + 1) % 16;
                int beside = x.blockByte(other);
                due.yes("setBlockByte(" + i + ", " + b + ")", x.setBlockByte(i, b));
                due.same("blockByte(" + i + ")", x.blockByte(i), b);
                due.same("blockByte(" + other + ")", x.blockByte(other), beside);
            }
        }
    }

    private static void known(String key, String plain, String secret) {
        BlockCode x = Calls.made(key);
        Calls.putBlock(x, plain);
        due.yes("encryptBlock()", x.encryptBlock());
        due.same(plain + " forth", Calls.block(x), secret);
        due.yes("decryptBlock()", x.decryptBlock());
        due.same(secret + " back", Calls.block(x), plain);
        due.yes("decryptBlock() once more", x.decryptBlock());
        due.same(plain + " back", Calls.block(x), new Oracle(key).back(plain));
    }

    /** FIPS 197 (B and C.1) and NIST SP 800-38A (F.1.1). */
    private static void knownBlocks() {
        known(Calls.KEY, "3243f6a8885a308d313198a2e0370734", "3925841d02dc09fbdc118597196a0b32");
        known("000102030405060708090a0b0c0d0e0f", "00112233445566778899aabbccddeeff",
            "69c4e0d86a7b0430d8cdb78070b4c55a");
        known(Calls.KEY, "6bc1bee22e409f96e93d7e117393172a", "3ad77bb40d7a3660a89ecaf32466ef97");
        known(Calls.KEY, "ae2d8a571e03ac9c9eb76fac45af8e51", "f5d3d58503b9699de785895a96fdbaaf");
        known(Calls.ZEROS, Calls.ZEROS, "66e94bd4ef8a2c3b884cfa59ca342b2e");
        known("ff".repeat(16), "ff".repeat(16), "bcbf217cb280cf30b2517052193ab979");
    }

    /** Enough blocks that every byte goes through S and back, in every place. */
    private static void manyBlocks() {
        Random random = new Random(13);
        byte[] key = new byte[16];
        byte[] block = new byte[16];
        for (int run = 0; run < 500; run++) {
            random.nextBytes(key);
            random.nextBytes(block);
            String hex = HexFormat.of().formatHex(block);
            Oracle oracle = new Oracle(key);
            BlockCode x = Calls.made(HexFormat.of().formatHex(key));
            Calls.putBlock(x, hex);
            x.encryptBlock();
            due.same(hex + " forth", Calls.block(x), oracle.forth(hex));
            Calls.putBlock(x, hex);
            x.decryptBlock();
            due.same(hex + " back", Calls.block(x), oracle.back(hex));
        }
    }

    /** The block alone changes: not the one before, not a message, not a code. */
    private static void theWaysLeaveTheRestAlone() {
        BlockCode x = Calls.made(Calls.KEY);
        x.macStart();
        x.macUpdate(0x6b);
        x.encryptBlock();
        x.decryptBlock();
        x.setBlockByte(5, 5);
        Calls.feed(x, "c1bee22e409f96e93d7e117393172a");
        x.encryptBlock();
        x.macFinish();
        x.encryptBlock();
        x.decryptBlock();
        x.setBlockByte(6, 6);
        due.same("code beside the block", Calls.tag(x), "070a16b46b4d4144f79bdd9dd04a287c");
        Calls.putBlock(x, "6bc1bee22e409f96e93d7e117393172a");
        x.chain(false);
        due.same("the one before is zeros still", Calls.block(x), "3ad77bb40d7a3660a89ecaf32466ef97");
    }
}
