import java.util.HexFormat;
import java.util.Random;

/** Promises 3, 4 and 18: the key's bytes, its making, and its half keys. */
public final class KeyTest {
    private static final Due due = new Due();

    public static void main(String[] args) {
        due.each(
            KeyTest::eachByteOfTheKeyCounts,
            KeyTest::expandMakesTheKeyAnew,
            KeyTest::expandLeavesAMessageAlone,
            KeyTest::knownHalfKeys,
            KeyTest::manyHalfKeys);
        due.close();
    }

    private static void eachByteOfTheKeyCounts() {
        for (int i = 0; i < 16; i++) {
            for (int b : new int[] {0, 1, 127, 128, 255}) {
                BlockCode x = Calls.ready();
                due.yes("setKeyByte(" + i + ", " + b + ")", x.setKeyByte(i, b));
                x.expand();
                x.encryptBlock();
                String key = Calls.ZEROS.substring(0, 2 * i) + String.format("%02x", b)
                    + Calls.ZEROS.substring(2 * i + 2);
                due.same("zeros forth under " + key, Calls.block(x), new Oracle(key).forth(Calls.ZEROS));
            }
        }
    }

    private static void expandMakesTheKeyAnew() {
        BlockCode x = Calls.made(Calls.KEY);
        due.yes("expand() of a key that is made", x.expand());
        due.same("first half key", Calls.half(x, 0), "fbeed618357133667c85e08f7236a8de");
        Calls.putKey(x, Calls.ZEROS);
        x.expand();
        due.same("first half key of zeros", Calls.half(x, 0), "cdd297a9df1458771099f4b39468565c");
        x.encryptBlock();
        due.same("zeros forth under zeros", Calls.block(x), "66e94bd4ef8a2c3b884cfa59ca342b2e");
    }

    private static void expandLeavesAMessageAlone() {
        BlockCode x = Calls.made(Calls.KEY);
        x.macStart();
        Calls.feed(x, "6bc1bee22e409f96e93d7e117393172aae2d8a57");
        due.yes("expand() in a message", x.expand());
        Calls.feed(x, "1e03ac9c9eb76fac45af8e5130c81c46a35ce411");
        x.macFinish();
        due.same("its code", Calls.tag(x), "dfa66747de9ae63030ca32611497c827");
    }

    private static void knownHalfKeys() {
        BlockCode x = Calls.made(Calls.KEY);
        due.same("first half key", Calls.half(x, 0), "fbeed618357133667c85e08f7236a8de");
        due.same("second half key", Calls.half(x, 1), "f7ddac306ae266ccf90bc11ee46d513b");
    }

    /** Enough keys that the highest bit is 0 and 1 before each doubling. */
    private static void manyHalfKeys() {
        Random random = new Random(18);
        for (int run = 0; run < 200; run++) {
            byte[] key = new byte[16];
            random.nextBytes(key);
            String hex = HexFormat.of().formatHex(key);
            BlockCode x = Calls.made(hex);
            Oracle oracle = new Oracle(key);
            for (int which = 0; which < 2; which++) {
                due.same("half key " + which + " of " + hex, Calls.half(x, which),
                    HexFormat.of().formatHex(oracle.half(which)));
            }
        }
    }
}
