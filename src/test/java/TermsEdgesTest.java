import java.util.HexFormat;

/** The boundary cases that the document names before its promises, each under the sentence that names it. */
public final class TermsEdgesTest {
    private static final String COUNTED = "000102030405060708090a0b0c0d0e0f";
    private static final Due due = new Due();

    public static void main(String[] args) {
        due.each(
            TermsEdgesTest::theLastOf512Calls,
            TermsEdgesTest::theLeastAndTheGreatestByte,
            TermsEdgesTest::productsThatWrapAround,
            TermsEdgesTest::sOfZeroAndOfEveryByte,
            TermsEdgesTest::theFirstWordBehindTheKey,
            TermsEdgesTest::powersThatWrapAround,
            TermsEdgesTest::placesThatWrapAround,
            TermsEdgesTest::theLastRoundIsNotMixed,
            TermsEdgesTest::backUndoesForth,
            TermsEdgesTest::theHighestBitFallsOrNot,
            TermsEdgesTest::theSecondHalfKey,
            TermsEdgesTest::aWholeLastBlock,
            TermsEdgesTest::anEmptyMessage,
            TermsEdgesTest::aLastBlockThatIsNotWhole,
            TermsEdgesTest::fromABlockOfZeros,
            TermsEdgesTest::refusedCallsChangeNothing);
        due.close();
    }

    private static String forth(String key, String block) {
        BlockCode x = Calls.made(key);
        Calls.putBlock(x, block);
        x.encryptBlock();
        return Calls.block(x);
    }

    private static String back(String key, String block) {
        BlockCode x = Calls.made(key);
        Calls.putBlock(x, block);
        x.decryptBlock();
        return Calls.block(x);
    }

    private static void bothWays(String key, String block) {
        String secret = Terms.forth(key, block);
        due.same(block + " forth under " + key, forth(key, block), secret);
        due.same(secret + " back under " + key, back(key, secret), block);
    }

    private static String times(int b) {
        return HexFormat.of().toHexDigits((byte) b).repeat(16);
    }

    private static String xored(String one, String other) {
        byte[] bytes = Oracle.xored(HexFormat.of().parseHex(one), HexFormat.of().parseHex(other));
        return HexFormat.of().formatHex(bytes);
    }

    /** All zeros but for one byte. */
    private static String alone(int i, int b) {
        return "00".repeat(i) + HexFormat.of().toHexDigits((byte) b) + "00".repeat(15 - i);
    }

    private static void theLastOf512Calls() {
        due.terms("1 to 18", "An object is used for at most 512 calls after it has been made");
        BlockCode x = new BlockCode();
        x.init();
        x.expand();
        x.macStart();
        int fills = 512 - 3 - 1 - 16 - 16 - 1;
        for (int k = 0; k < fills; k++) {
            due.yes("macFill(10000, " + k + ", 3)", x.macFill(10000, k, 3));
        }
        due.yes("macFinish()", x.macFinish());
        String code = Calls.tag(x);
        due.same("code of the longest message", code, new Oracle(Calls.ZEROS).code(manyFills(fills)));
        Calls.compareAll(x, code);
        due.yes("macVerdict(), the 512th call", x.macVerdict());
    }

    private static String manyFills(int fills) {
        byte[] bytes = new byte[10000 * fills];
        for (int i = 0; i < bytes.length; i++) {
            bytes[i] = (byte) (i / 10000 + 3 * (i % 10000));
        }
        return HexFormat.of().formatHex(bytes);
    }

    private static void theLeastAndTheGreatestByte() {
        due.terms("3, 6 and 12", "BYTES are 0 .. 255");
        BlockCode x = Calls.made(Calls.KEY);
        x.macStart();
        for (int b : new int[] {0, 255}) {
            due.yes("setBlockByte(7, " + b + ")", x.setBlockByte(7, b));
            due.same("blockByte(7)", x.blockByte(7), b);
            due.yes("macUpdate(" + b + ")", x.macUpdate(b));
        }
        for (int b : new int[] {-1, 256}) {
            due.no("setBlockByte(7, " + b + ")", x.setBlockByte(7, b));
            due.no("macUpdate(" + b + ")", x.macUpdate(b));
            due.no("setKeyByte(7, " + b + ")", x.setKeyByte(7, b));
        }
        x.macFinish();
        due.same("code of 0 and 255", Calls.tag(x), Terms.code(Calls.KEY, "00ff"));
        due.yes("setKeyByte(7, 0)", x.setKeyByte(7, 0));
        due.yes("setKeyByte(7, 255)", x.setKeyByte(7, 255));
    }

    /** Bytes that S makes 127 and 128 are mixed: twice the one just fits, twice the other wraps around. */
    private static void productsThatWrapAround() {
        due.terms("4, 13 and 14", "products as polynomials over bits modulo x^8 + x^4 + x^3 + x + 1");
        for (int want : new int[] {0, 1, 127, 128, 255}) {
            for (int b = 0; b < 256; b++) {
                if (Terms.s(b) == want) {
                    bothWays(Calls.ZEROS, times(b));
                    bothWays(Calls.ZEROS, alone(0, b));
                }
            }
        }
    }

    /** A block that is the key but for a byte b in each place is b in each place when it first goes through S. */
    private static void sOfZeroAndOfEveryByte() {
        due.terms("4, 13 and 14", "let c be that byte whose product with b is 1 (0 for 0)");
        due.same("zeros forth under zeros", forth(Calls.ZEROS, Calls.ZEROS), "66e94bd4ef8a2c3b884cfa59ca342b2e");
        for (int b = 0; b < 256; b++) {
            bothWays(Calls.KEY, xored(Calls.KEY, times(b)));
        }
    }

    /** w3's bytes are turned round: each of them alone shows where it goes. */
    private static void theFirstWordBehindTheKey() {
        due.terms("4", "but where 4 divides i: w(i - 1) turned left by 8 bits");
        for (int i = 0; i < 16; i++) {
            bothWays(alone(i, 1), Calls.ZEROS);
            bothWays(alone(i, 255), Calls.ZEROS);
        }
    }

    /** The ninth power wraps around and the tenth comes of it: FIPS 197 (A.1, B and C.1) has both in every key. */
    private static void powersThatWrapAround() {
        due.terms("4", "the (i / 4)-th of 1, 2, 4, .. (each twice the one before, in the field)");
        due.same("FIPS 197, C.1", forth(COUNTED, "00112233445566778899aabbccddeeff"),
            "69c4e0d86a7b0430d8cdb78070b4c55a");
        due.same("FIPS 197, B", forth(Calls.KEY, "3243f6a8885a308d313198a2e0370734"),
            "3925841d02dc09fbdc118597196a0b32");
        bothWays(times(255), times(255));
    }

    private static void placesThatWrapAround() {
        due.terms("13 and 14", "byte 4 c + r becomes what byte 4 ((c + r) modulo 4) + r was");
        for (int i = 0; i < 16; i++) {
            bothWays(Calls.ZEROS, alone(i, 1));
            bothWays(COUNTED, alone(i, 255));
        }
    }

    private static void theLastRoundIsNotMixed() {
        due.terms("13 and 14", "but for k = 10 not");
        due.same("zeros forth under the key", forth(Calls.KEY, Calls.ZEROS), Terms.forth(Calls.KEY, Calls.ZEROS));
        due.same("zeros back under the key", Terms.forth(Calls.KEY, back(Calls.KEY, Calls.ZEROS)), Calls.ZEROS);
    }

    private static void backUndoesForth() {
        due.terms("14", "BACK is what undoes that");
        for (int b : new int[] {0, 1, 127, 128, 254, 255}) {
            String plain = times(b);
            due.same(plain + " forth and back", back(Calls.KEY, forth(Calls.KEY, plain)), plain);
            due.same(plain + " back and forth", forth(Calls.KEY, back(Calls.KEY, plain)), plain);
            due.same(plain + " back", Terms.forth(Calls.KEY, back(Calls.KEY, plain)), plain);
        }
    }

    /** Keys under which the highest bit falls out of neither doubling, the second, the first, and both. */
    private static void theHighestBitFallsOrNot() {
        due.terms("4 and 18", "if the highest was 1, the last byte is xored with 135");
        boolean[] seen = new boolean[4];
        for (int b = 0; b < 64; b++) {
            String key = times(b);
            BlockCode x = Calls.made(key);
            due.same("first half key of " + key, Calls.half(x, 0), Terms.half(key, 0));
            due.same("second half key of " + key, Calls.half(x, 1), Terms.half(key, 1));
            seen[(Terms.falls(key, 0) ? 2 : 0) + (Terms.falls(key, 1) ? 1 : 0)] = true;
        }
        for (int kind = 0; kind < 4; kind++) {
            due.yes("a key of kind " + kind, seen[kind]);
        }
    }

    /** RFC 4493, the example of the half keys. */
    private static void theSecondHalfKey() {
        due.terms("4 and 18", "the block of zeros, forth, doubled; that doubled once more");
        BlockCode x = Calls.made(Calls.KEY);
        due.same("first half key", Calls.half(x, 0), "fbeed618357133667c85e08f7236a8de");
        due.same("second half key", Calls.half(x, 1), "f7ddac306ae266ccf90bc11ee46d513b");
    }

    private static void code(String message) {
        BlockCode x = Calls.made(Calls.KEY);
        due.same("code of " + message.length() / 2 + " bytes: " + message, Calls.code(x, message),
            Terms.code(Calls.KEY, message));
    }

    private static void aWholeLastBlock() {
        due.terms("8 and 9", "the last one, if it is whole, is xored with the first half key");
        due.same("RFC 4493, 16 bytes", Calls.code(Calls.made(Calls.KEY), "6bc1bee22e409f96e93d7e117393172a"),
            "070a16b46b4d4144f79bdd9dd04a287c");
        for (int blocks = 1; blocks <= 4; blocks++) {
            code(COUNTED.repeat(blocks));
            code(Calls.ZEROS.repeat(blocks));
            code(times(255).repeat(blocks));
        }
    }

    private static void anEmptyMessage() {
        due.terms("8 and 9", "otherwise (also the only one of an empty message)");
        due.same("RFC 4493, no bytes", Calls.code(Calls.made(Calls.KEY), ""), "bb1d6929e95937287fa37d129b756746");
        code("");
        BlockCode x = Calls.made(Calls.KEY);
        x.macStart();
        x.macFill(0, 128, 0);
        x.macFinish();
        due.same("code of nothing filled in", Calls.tag(x), "bb1d6929e95937287fa37d129b756746");
    }

    /** Messages that look like the filling behind another have codes of their own. */
    private static void aLastBlockThatIsNotWhole() {
        due.terms("8 and 9", "a byte 128 comes behind it, and bytes 0 as far as it goes");
        for (int length : new int[] {1, 14, 15, 17, 30, 31, 33}) {
            code(COUNTED.repeat(3).substring(0, 2 * length));
            code("00".repeat(length));
            code("80".repeat(length));
        }
        String fifteen = COUNTED.substring(0, 30);
        code(fifteen + "80");
        String alike = Calls.code(Calls.made(Calls.KEY), fifteen + "80");
        due.no("a byte 128 of the message is as the one behind it",
            alike.equals(Calls.code(Calls.made(Calls.KEY), fifteen)));
    }

    private static void fromABlockOfZeros() {
        due.terms("8 and 9", "From a block of zeros on: it is xored with each block in order, and goes forth");
        BlockCode x = Calls.made(Calls.KEY);
        for (String message : new String[] {COUNTED, "", COUNTED + Calls.KEY, Calls.KEY + COUNTED, "ff"}) {
            due.same("code of " + message + " behind another", Calls.code(x, message),
                Terms.code(Calls.KEY, message));
        }
    }

    /** Every call of the face that can be refused, once for each reason; the promises' own tests go on from here. */
    private static void refusedCallsChangeNothing() {
        due.terms("1 to 18",
            "Calls answer false (or -1) when something is not as they want it, and nothing changes then");
        Refusal.isFalse(due, State.that(s -> !s.isReady()), "expand()", x -> x.expand());
        Refusal.isFalse(due, State.that(s -> s.isReady()), "setKeyByte(16, 256)", x -> x.setKeyByte(16, 256));
        Refusal.isFalse(due, State.that(s -> s.isReady()), "setBlockByte(-1, -1)", x -> x.setBlockByte(-1, -1));
        Refusal.isMinusOne(due, State.that(s -> true), "tagByte(16)", x -> x.tagByte(16));
        Refusal.isMinusOne(due, State.that(s -> true), "blockByte(16)", x -> x.blockByte(16));
        Refusal.isMinusOne(due, State.that(s -> true), "half(2, 16)", x -> x.half(2, 16));
    }
}
