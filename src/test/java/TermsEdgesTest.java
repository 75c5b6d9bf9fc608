import java.util.HexFormat;
import java.util.List;

/** The boundary cases that the document names before its promises, each under the sentence that names it. */
public final class TermsEdgesTest {
    private static final String COUNTED = "000102030405060708090a0b0c0d0e0f";
    private static final Due due = new Due();

    public static void main(String[] args) {
        due.each(
            TermsEdgesTest::theLastOf512Calls,
            TermsEdgesTest::theLeastAndTheGreatestByte,
            TermsEdgesTest::productsThatWrapAround,
            TermsEdgesTest::sOfZeroAndOfEveryByte,
            TermsEdgesTest::theFirstWordBehindTheKey,
            TermsEdgesTest::powersThatWrapAround,
            TermsEdgesTest::placesThatWrapAround,
            TermsEdgesTest::theLastRoundIsNotMixed,
            TermsEdgesTest::backUndoesForth,
            TermsEdgesTest::theHighestBitFallsOrNot,
            TermsEdgesTest::theSecondHalfKey,
            TermsEdgesTest::aWholeLastBlock,
            TermsEdgesTest::anEmptyMessage,
            TermsEdgesTest::aLastBlockThatIsNotWhole,
            TermsEdgesTest::fromABlockOfZeros,
            TermsEdgesTest::refusedCallsChangeNothing);
        due.close();
    }

    private static String times(int b) {
        return HexFormat.of().toHexDigits((byte) b).repeat(16);
    }

    private static String xored(String one, String other) {
        byte[] bytes = Oracle.xored(HexFormat.of().parseHex(one), HexFormat.of().parseHex(other));
        return HexFormat.of().formatHex(bytes);
    }

    /** All zeros but for one byte. */
    private static String alone(int i, int b) {
        return "00".repeat(i) + HexFormat.of().toHexDigits((byte) b) + "00".repeat(15 - i);
    }

    private static void theLastOf512Calls() {
        due.terms("1 to 18", "An object is used for at most 512 calls after it has been made");
        BlockCode x = new BlockCode();
        x.init();
        x.expand();
        x.macStart();
        int fills = 512 - 3 - 1 - 16 - 16 - 1;
        for (int k = 0; k < fills; k++) {
            due.yes("macFill(10000, " + k + ", 3)", x.macFill(10000, k, 3));
        }
        due.yes("macFinish()", x.macFinish());
        String code = Calls.tag(x);
        due.same("code of the longest message", code, new Oracle(Calls.ZEROS).code(manyFills(fills)));
        Calls.compareAll(x, code);
        due.yes("macVerdict(), the 512th call", x.macVerdict());
    }

    private static String manyFills(int fills) {
        byte[] bytes = new byte[10000 * fills];
        for (int i = 0; i < bytes.length; i++) {
            bytes[i] = (byte) (i / 10000 + 3 * (i % 10000));
        }
        return HexFormat.of().formatHex(bytes);
    }

    private static void theLeastAndTheGreatestByte() {
        due.terms("3, 6 and 12", "BYTES are 0 .. 255");
        BlockCode x = Calls.made(Calls.KEY);
        x.macStart();
        for (int b : new int[] {0, 255}) {
            due.yes("setBlockByte(7, " + b + ")", x.setBlockByte(7, b));
            due.same("blockByte(7)", x.blockByte(7), b);
            due.yes("macUpdate(" + b + ")", x.macUpdate(b));
        }
        for (int b : new int[] {-1, 256}) {
            due.no("setBlockByte(7, " + b + ")", x.setBlockByte(7, b));
            due.no("macUpdate(" + b + ")", x.macUpdate(b));
            due.no("setKeyByte(7, " + b + ")", x.setKeyByte(7, b));
        }
        x.macFinish();
        due.same("code of 0 and 255", Calls.tag(x), Terms.code(Calls.KEY, "00ff"));
        due.yes("setKeyByte(7, 0)", x.setKeyByte(7, 0));
        due.yes("setKeyByte(7, 255)", x.setKeyByte(7, 255));
    }

    /** Bytes that S makes 127 and 128 are mixed: twice the one just fits, twice the other wraps around. */
    private static void productsThatWrapAround() {
        due.terms(Uses.OF_THE_CIPHER, "products as polynomials over bits modulo x^8 + x^4 + x^3 + x + 1");
        for (int want : new int[] {0, 1, 127, 128, 255}) {
            for (int b = 0; b < 256; b++) {
                if (Terms.s(b) == want) {
                    Uses.cipher(due, Calls.ZEROS, times(b));
                    Uses.cipher(due, Calls.ZEROS, alone(0, b));
                }
            }
        }
    }

    /** A block that is the key but for a byte b in each place is b in each place when it first goes through S. */
    private static void sOfZeroAndOfEveryByte() {
        due.terms(Uses.OF_THE_CIPHER, "let c be that byte whose product with b is 1 (0 for 0)");
        due.same("zeros forth under zeros", Uses.forth(Calls.ZEROS, Calls.ZEROS), "66e94bd4ef8a2c3b884cfa59ca342b2e");
        for (int b = 0; b < 256; b++) {
            Uses.cipher(due, Calls.KEY, xored(Calls.KEY, times(b)));
        }
    }

    /** w3's bytes are turned round: each of them alone shows where it goes. */
    private static void theFirstWordBehindTheKey() {
        due.terms(Uses.OF_THE_CIPHER, "but where 4 divides i: w(i - 1) turned left by 8 bits");
        for (int i = 0; i < 16; i++) {
            Uses.cipher(due, alone(i, 1), Calls.ZEROS);
            Uses.cipher(due, alone(i, 255), Calls.ZEROS);
        }
    }

    /** The ninth power wraps around and the tenth comes of it: FIPS 197 (A.1, B and C.1) has both in every key. */
    private static void powersThatWrapAround() {
        due.terms(Uses.OF_THE_CIPHER, "the (i / 4)-th of 1, 2, 4, .. (each twice the one before, in the field)");
        due.same("FIPS 197, C.1", Uses.forth(COUNTED, "00112233445566778899aabbccddeeff"),
            "69c4e0d86a7b0430d8cdb78070b4c55a");
        due.same("FIPS 197, B", Uses.forth(Calls.KEY, "3243f6a8885a308d313198a2e0370734"),
            "3925841d02dc09fbdc118597196a0b32");
        Uses.cipher(due, times(255), times(255));
    }

    private static void placesThatWrapAround() {
        due.terms(Uses.OF_THE_CIPHER, "byte 4 c + r becomes what byte 4 ((c + r) modulo 4) + r was");
        for (int i = 0; i < 16; i++) {
            Uses.cipher(due, Calls.ZEROS, alone(i, 1));
            Uses.cipher(due, COUNTED, alone(i, 255));
        }
    }

    private static void theLastRoundIsNotMixed() {
        due.terms(Uses.OF_THE_CIPHER, "but for k = 10 not");
        Uses.cipher(due, Calls.KEY, Calls.ZEROS);
        due.same("zeros back under the key", Terms.forth(Calls.KEY, Uses.back(Calls.KEY, Calls.ZEROS)), Calls.ZEROS);
    }

    private static void backUndoesForth() {
        due.terms(Uses.OF_GOING_BACK, "BACK is what undoes that");
        for (int b : new int[] {0, 1, 127, 128, 254, 255}) {
            String plain = times(b);
            due.same(plain + " forth and back", Uses.back(Calls.KEY, Uses.forth(Calls.KEY, plain)), plain);
            due.same(plain + " back and forth", Uses.forth(Calls.KEY, Uses.back(Calls.KEY, plain)), plain);
            due.same(plain + " back", Terms.forth(Calls.KEY, Uses.back(Calls.KEY, plain)), plain);
        }
    }

    /** Keys under which the highest bit falls out of neither doubling, the second, the first, and both. */
    private static void theHighestBitFallsOrNot() {
        due.terms(Uses.OF_THE_HALF_KEYS, "if the highest was 1, the last byte is xored with 135");
        boolean[] seen = new boolean[4];
        for (int b = 0; b < 64; b++) {
            String key = times(b);
            Uses.halfKeys(due, key);
            Uses.code(due, key, COUNTED);
            Uses.code(due, key, "");
            seen[(Terms.falls(key, 0) ? 2 : 0) + (Terms.falls(key, 1) ? 1 : 0)] = true;
        }
        for (int kind = 0; kind < 4; kind++) {
            due.yes("a key of kind " + kind, seen[kind]);
        }
    }

    /** RFC 4493, the example of the half keys. */
    private static void theSecondHalfKey() {
        due.terms(Uses.OF_THE_HALF_KEYS, "the block of zeros, forth, doubled; that doubled once more");
        BlockCode x = Calls.made(Calls.KEY);
        due.same("first half key", Calls.half(x, 0), "fbeed618357133667c85e08f7236a8de");
        due.same("second half key", Calls.half(x, 1), "f7ddac306ae266ccf90bc11ee46d513b");
        Uses.code(due, Calls.KEY, COUNTED);
        Uses.code(due, Calls.KEY, "");
    }

    private static void aWholeLastBlock() {
        due.terms(Uses.OF_THE_CODE, "the last one, if it is whole, is xored with the first half key");
        due.same("RFC 4493, 16 bytes", Calls.code(Calls.made(Calls.KEY), "6bc1bee22e409f96e93d7e117393172a"),
            "070a16b46b4d4144f79bdd9dd04a287c");
        for (int blocks = 1; blocks <= 4; blocks++) {
            Uses.code(due, Calls.KEY, COUNTED.repeat(blocks));
            Uses.code(due, Calls.KEY, Calls.ZEROS.repeat(blocks));
            Uses.code(due, Calls.KEY, times(255).repeat(blocks));
        }
    }

    private static void anEmptyMessage() {
        due.terms(Uses.OF_THE_CODE, "otherwise (also the only one of an empty message)");
        due.same("RFC 4493, no bytes", Calls.code(Calls.made(Calls.KEY), ""), "bb1d6929e95937287fa37d129b756746");
        Uses.code(due, Calls.KEY, "");
        BlockCode x = Calls.made(Calls.KEY);
        x.macStart();
        x.macFill(0, 128, 0);
        x.macFinish();
        due.same("code of nothing filled in", Calls.tag(x), "bb1d6929e95937287fa37d129b756746");
    }

    /** Messages that look like the filling behind another have codes of their own. */
    private static void aLastBlockThatIsNotWhole() {
        due.terms(Uses.OF_THE_CODE, "a byte 128 comes behind it, and bytes 0 as far as it goes");
        for (int length : new int[] {1, 14, 15, 17, 30, 31, 33}) {
            Uses.code(due, Calls.KEY, COUNTED.repeat(3).substring(0, 2 * length));
            Uses.code(due, Calls.KEY, "00".repeat(length));
            Uses.code(due, Calls.KEY, "80".repeat(length));
        }
        String fifteen = COUNTED.substring(0, 30);
        Uses.code(due, Calls.KEY, fifteen + "80");
        String alike = Calls.code(Calls.made(Calls.KEY), fifteen + "80");
        due.no("a byte 128 of the message is as the one behind it",
            alike.equals(Calls.code(Calls.made(Calls.KEY), fifteen)));
    }

    private static void fromABlockOfZeros() {
        due.terms(Uses.OF_THE_CODE, "From a block of zeros on: it is xored with each block in order, and goes forth");
        BlockCode x = Calls.made(Calls.KEY);
        for (String message : new String[] {COUNTED, "", COUNTED + Calls.KEY, Calls.KEY + COUNTED, "ff"}) {
            due.same("code of " + message + " behind another", Calls.code(x, message),
                Terms.code(Calls.KEY, message));
        }
    }

    /** Every call of the face that can be refused; the promises' own tests go through their reasons one by one. */
    private static void refusedCallsChangeNothing() {
        due.terms("1 to 18",
            "Calls answer false (or -1) when something is not as they want it, and nothing changes then");
        List<State> all = State.that(s -> true);
        List<State> notReady = State.that(s -> !s.isReady());
        List<State> notMade = State.that(s -> !s.hasKeyMade());
        List<State> notOpen = State.that(s -> !s.hasOpenMessage());
        Refusal.isFalse(due, all, "setKeyByte(16, 256)", x -> x.setKeyByte(16, 256));
        Refusal.isFalse(due, notReady, "expand()", x -> x.expand());
        Refusal.isFalse(due, notMade, "macStart()", x -> x.macStart());
        Refusal.isFalse(due, all, "macUpdate(256)", x -> x.macUpdate(256));
        Refusal.isFalse(due, all, "macFill(10001, 1, 1)", x -> x.macFill(10001, 1, 1));
        Refusal.isFalse(due, notOpen, "macFinish()", x -> x.macFinish());
        Refusal.isMinusOne(due, all, "tagByte(16)", x -> x.tagByte(16));
        Refusal.isFalse(due, all, "macCheck(16, 0)", x -> x.macCheck(16, 0));
        Refusal.isFalse(due, all, "setBlockByte(-1, -1)", x -> x.setBlockByte(-1, -1));
        Refusal.isFalse(due, notMade, "encryptBlock()", x -> x.encryptBlock());
        Refusal.isFalse(due, notMade, "decryptBlock()", x -> x.decryptBlock());
        Refusal.isFalse(due, notMade, "chain(false)", x -> x.chain(false));
        Refusal.isFalse(due, notMade, "chain(true)", x -> x.chain(true));
        Refusal.isFalse(due, notReady, "unchain()", x -> x.unchain());
        Refusal.isMinusOne(due, all, "blockByte(16)", x -> x.blockByte(16));
        Refusal.isMinusOne(due, all, "half(2, 16)", x -> x.half(2, 16));
    }
}
