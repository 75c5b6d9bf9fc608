import java.util.HexFormat;
import java.util.Random;

/** Promises 3, 4 and 18: the key's bytes, its making, and its half keys. */
public final class KeyTest {
    private static final Due due = new Due();

    public static void main(String[] args) {
        eachByteOfTheKeyCounts();
        setKeyByteUnmakesTheKey();
        setKeyByteEndsTheMessage();
        setKeyByteForgetsTheCode();
        setKeyByteRefusesWrongInputs();
        expandMakesTheKeyAnew();
        expandLeavesAMessageAlone();
        expandLeavesACodeAlone();
        expandLeavesTheBlocksAlone();
        knownHalfKeys();
        manyHalfKeys();
        halfRefusesWrongInputs();
        due.close();
    }

    private static void eachByteOfTheKeyCounts() {
        for (int i = 0; i < 16; i++) {
            for (int b : new int[] {0, 1, 127, 128, 255}) {
                BlockCode x = Calls.ready();
                due.yes("setKeyByte(" + i + ", " + b + ")", x.setKeyByte(i, b));
                x.expand();
                x.encryptBlock();
                String key = Calls.ZEROS.substring(0, 2 * i) + String.format("%02x", b)
                    + Calls.ZEROS.substring(2 * i + 2);
                due.same("zeros forth under " + key, Calls.block(x), new Oracle(key).forth(Calls.ZEROS));
            }
        }
    }

    private static void setKeyByteUnmakesTheKey() {
        BlockCode x = Calls.made(Calls.KEY);
        due.yes("setKeyByte(0, 0x2b), the same byte", x.setKeyByte(0, 0x2b));
        due.no("unmade: encryptBlock()", x.encryptBlock());
        due.no("unmade: decryptBlock()", x.decryptBlock());
        due.no("unmade: chain(false)", x.chain(false));
        due.no("unmade: chain(true)", x.chain(true));
        due.no("unmade: macStart()", x.macStart());
        due.same("unmade: half", Calls.half(x, 0) + Calls.half(x, 1), Calls.none() + Calls.none());
        due.same("unmade: block", Calls.block(x), Calls.ZEROS);
        due.yes("unmade: expand()", x.expand());
        due.same("made again: code of nothing", Calls.code(x, ""), "bb1d6929e95937287fa37d129b756746");
    }

    private static void setKeyByteEndsTheMessage() {
        BlockCode x = Calls.made(Calls.KEY);
        x.macStart();
        x.setKeyByte(0, 0x2b);
        due.no("key changed in a message: macUpdate(0)", x.macUpdate(0));
        due.no("key changed in a message: macFill(0, 0, 0)", x.macFill(0, 0, 0));
        due.no("key changed in a message: macFinish()", x.macFinish());
        x.expand();
        due.no("made again: macUpdate(0)", x.macUpdate(0));
        due.no("made again: macFinish()", x.macFinish());
        due.same("made again: tag", Calls.tag(x), Calls.none());
    }

    private static void setKeyByteForgetsTheCode() {
        BlockCode x = Calls.made(Calls.KEY);
        Calls.compareAll(x, Calls.code(x, "00"));
        due.yes("macVerdict()", x.macVerdict());
        x.setKeyByte(15, 0x3c);
        due.same("key changed: tag", Calls.tag(x), Calls.none());
        due.no("key changed: macVerdict()", x.macVerdict());
        due.no("key changed: macCheck(0, 0)", x.macCheck(0, 0));
    }

    private static void setKeyByteRefusesWrongInputs() {
        BlockCode x = Calls.made(Calls.KEY);
        Calls.compareAll(x, Calls.code(x, "00"));
        String picture = Calls.picture(x);
        for (int i : new int[] {-1, 16, 17, Integer.MIN_VALUE, Integer.MAX_VALUE}) {
            due.no("setKeyByte(" + i + ", 0)", x.setKeyByte(i, 0));
        }
        for (int b : new int[] {-1, 256, 257, Integer.MIN_VALUE, Integer.MAX_VALUE}) {
            due.no("setKeyByte(0, " + b + ")", x.setKeyByte(0, b));
        }
        due.same("after refusals", Calls.picture(x), picture);
        x.macStart();
        x.setKeyByte(16, 0);
        x.setKeyByte(0, 256);
        due.yes("macFinish() after refusals", x.macFinish());
        x.expand();
        due.same("the key after refusals", Calls.code(x, ""), "bb1d6929e95937287fa37d129b756746");
    }

    private static void expandMakesTheKeyAnew() {
        BlockCode x = Calls.made(Calls.KEY);
        due.yes("expand() of a key that is made", x.expand());
        due.same("first half key", Calls.half(x, 0), "fbeed618357133667c85e08f7236a8de");
        Calls.putKey(x, Calls.ZEROS);
        x.expand();
        due.same("first half key of zeros", Calls.half(x, 0), "cdd297a9df1458771099f4b39468565c");
        x.encryptBlock();
        due.same("zeros forth under zeros", Calls.block(x), "66e94bd4ef8a2c3b884cfa59ca342b2e");
    }

    private static void expandLeavesAMessageAlone() {
        BlockCode x = Calls.made(Calls.KEY);
        x.macStart();
        Calls.feed(x, "6bc1bee22e409f96e93d7e117393172aae2d8a57");
        due.yes("expand() in a message", x.expand());
        Calls.feed(x, "1e03ac9c9eb76fac45af8e5130c81c46a35ce411");
        x.macFinish();
        due.same("its code", Calls.tag(x), "dfa66747de9ae63030ca32611497c827");
    }

    private static void expandLeavesACodeAlone() {
        BlockCode x = Calls.made(Calls.KEY);
        Calls.compareAll(x, Calls.code(x, "00"));
        String picture = Calls.picture(x);
        x.expand();
        due.same("expand() after a code", Calls.picture(x), picture);
        due.yes("macVerdict() after expand", x.macVerdict());
    }

    private static void expandLeavesTheBlocksAlone() {
        BlockCode x = Calls.made(Calls.ZEROS);
        Calls.putBlock(x, Calls.KEY);
        x.chain(false);
        String before = Calls.block(x);
        x.expand();
        due.same("expand leaves the block", Calls.block(x), before);
        x.chain(false);
        due.same("expand leaves the one before", Calls.block(x), "66e94bd4ef8a2c3b884cfa59ca342b2e");
    }

    private static void knownHalfKeys() {
        BlockCode x = Calls.made(Calls.KEY);
        due.same("first half key", Calls.half(x, 0), "fbeed618357133667c85e08f7236a8de");
        due.same("second half key", Calls.half(x, 1), "f7ddac306ae266ccf90bc11ee46d513b");
    }

    /** Enough keys that the highest bit is 0 and 1 before each doubling. */
    private static void manyHalfKeys() {
        Random random = new Random(18);
        for (int run = 0; run < 200; run++) {
            byte[] key = new byte[16];
            random.nextBytes(key);
            String hex = HexFormat.of().formatHex(key);
            BlockCode x = Calls.made(hex);
            Oracle oracle = new Oracle(key);
            for (int which = 0; which < 2; which++) {
                due.same("half key " + which + " of " + hex, Calls.half(x, which),
                    HexFormat.of().formatHex(oracle.half(which)));
            }
        }
    }

    private static void halfRefusesWrongInputs() {
        BlockCode x = Calls.made(Calls.KEY);
        for (int wrong : new int[] {-1, 2, 3, Integer.MIN_VALUE, Integer.MAX_VALUE}) {
            due.same("half(" + wrong + ", 0)", x.half(wrong, 0), -1);
        }
        for (int wrong : new int[] {-1, 16, 17, Integer.MIN_VALUE, Integer.MAX_VALUE}) {
            due.same("half(0, " + wrong + ")", x.half(0, wrong), -1);
            due.same("half(1, " + wrong + ")", x.half(1, wrong), -1);
        }
    }
}
