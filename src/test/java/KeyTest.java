import java.util.HexFormat;
import java.util.Random;

/** Promises 3, 4 and 18: the key's bytes, its making, and its half keys. */
public final class KeyTest {
    private static final Due due = new Due();

    public static void main(String[] args) {
        due.each(
            KeyTest::eachByteOfTheKeyCounts,
            KeyTest::aByteOfTheKeyIsPutAgain,
            KeyTest::setKeyByteEndsKeyAndMessage,
            KeyTest::setKeyByteLeavesTheRestAlone,
            KeyTest::expandMakesTheKeyAnew,
            KeyTest::expandLeavesAMessageAlone,
            KeyTest::knownHalfKeys,
            KeyTest::manyHalfKeys);
        due.close();
    }

    private static void eachByteOfTheKeyCounts() {
        due.promise(3, "Byte i of the key is b");
        for (int i = 0; i < 16; i++) {
            for (int b : new int[] {0, 1, 127, 128, 255}) {
                BlockCode x = Calls.ready();
                due.yes("setKeyByte(" + i + ", " + b + ")", x.setKeyByte(i, b));
                x.expand();
                x.encryptBlock();
                String key = Calls.ZEROS.substring(0, 2 * i) + String.format("%02x", b)
                    + Calls.ZEROS.substring(2 * i + 2);
                due.same("zeros forth under " + key, Calls.block(x), new Oracle(key).forth(Calls.ZEROS));
            }
        }
    }

    /** The other bytes stay, and the last one put counts. */
    private static void aByteOfTheKeyIsPutAgain() {
        due.promise(3, "Byte i of the key is b: once more, and the others stay");
        BlockCode x = Calls.made(Calls.KEY);
        for (int i = 0; i < 16; i++) {
            due.yes("setKeyByte(" + i + ", 99)", x.setKeyByte(i, 99));
            due.yes("setKeyByte(" + i + ", 7)", x.setKeyByte(i, 7));
            x.expand();
            String key = "07".repeat(i + 1) + Calls.KEY.substring(2 * i + 2);
            due.same("first half key of " + key, Calls.half(x, 0),
                HexFormat.of().formatHex(new Oracle(key).half(0)));
        }
    }

    private static void setKeyByteEndsKeyAndMessage() {
        due.promise(3, "it is not made then, and there is no message");
        BlockCode x = Calls.made(Calls.KEY);
        Calls.code(x, "6bc1");
        due.yes("setKeyByte(4, 9)", x.setKeyByte(4, 9));
        due.no("encryptBlock()", x.encryptBlock());
        due.no("macStart()", x.macStart());
        due.same("first half key", Calls.half(x, 0), Calls.none());
        due.same("tag", Calls.tag(x), Calls.none());
        x.expand();
        due.same("tag under the new key", Calls.tag(x), Calls.none());
        x.macStart();
        x.setKeyByte(4, 8);
        x.expand();
        due.no("macUpdate(1) of a message of another key", x.macUpdate(1));
        due.no("macFinish() of it", x.macFinish());
    }

    private static void setKeyByteLeavesTheRestAlone() {
        due.promise(3, "Byte i of the key is b, and the block and the one before stay");
        BlockCode x = Calls.made(Calls.KEY);
        Calls.putBlock(x, "00112233445566778899aabbccddeeff");
        x.chain(false);
        String block = Calls.block(x);
        Calls.putKey(x, Calls.ZEROS);
        due.same("block", Calls.block(x), block);
        x.expand();
        x.chain(false);
        due.same("the block, which is the one before too, chained forth", Calls.block(x),
            "66e94bd4ef8a2c3b884cfa59ca342b2e");
    }

    private static void expandMakesTheKeyAnew() {
        due.promise(4, "The key is MADE (its words, its half keys)");
        BlockCode x = Calls.ready();
        Calls.putKey(x, Calls.KEY);
        due.yes("expand()", x.expand());
        due.same("first half key", Calls.half(x, 0), "fbeed618357133667c85e08f7236a8de");
        due.same("second half key", Calls.half(x, 1), "f7ddac306ae266ccf90bc11ee46d513b");
        due.yes("expand() of a key that is made", x.expand());
        due.same("first half key again", Calls.half(x, 0), "fbeed618357133667c85e08f7236a8de");
        Calls.putKey(x, Calls.ZEROS);
        due.yes("expand() of zeros", x.expand());
        due.same("first half key of zeros", Calls.half(x, 0), "cdd297a9df1458771099f4b39468565c");
        x.encryptBlock();
        due.same("zeros forth under zeros", Calls.block(x), "66e94bd4ef8a2c3b884cfa59ca342b2e");
    }

    private static void expandLeavesAMessageAlone() {
        due.promise(4, "The key is MADE, and a message goes on");
        BlockCode x = Calls.made(Calls.KEY);
        x.macStart();
        Calls.feed(x, "6bc1bee22e409f96e93d7e117393172aae2d8a57");
        due.yes("expand() in a message", x.expand());
        Calls.feed(x, "1e03ac9c9eb76fac45af8e5130c81c46a35ce411");
        x.macFinish();
        due.same("its code", Calls.tag(x), "dfa66747de9ae63030ca32611497c827");
    }

    private static void knownHalfKeys() {
        due.promise(18, "Byte i of the first (which = 0), the second half key (1)");
        BlockCode x = Calls.made(Calls.KEY);
        due.same("first half key", Calls.half(x, 0), "fbeed618357133667c85e08f7236a8de");
        due.same("second half key", Calls.half(x, 1), "f7ddac306ae266ccf90bc11ee46d513b");
    }

    /** Enough keys that the highest bit is 0 and 1 before each doubling. */
    private static void manyHalfKeys() {
        due.promise(18, "Byte i of the first (which = 0), the second half key (1): of many keys");
        Random random = new Random(18);
        for (int run = 0; run < 200; run++) {
            byte[] key = new byte[16];
            random.nextBytes(key);
            String hex = HexFormat.of().formatHex(key);
            BlockCode x = Calls.made(hex);
            Oracle oracle = new Oracle(key);
            for (int which = 0; which < 2; which++) {
                due.same("half key " + which + " of " + hex, Calls.half(x, which),
                    HexFormat.of().formatHex(oracle.half(which)));
            }
        }
    }
}
