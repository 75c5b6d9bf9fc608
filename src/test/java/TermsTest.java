import java.util.HexFormat;
import java.util.Random;

/** The sentences under "Terms", each by every promise that uses it: ordinary inputs. */
public final class TermsTest {
    private static final String COUNTED = "000102030405060708090a0b0c0d0e0f";
    private static final Due due = new Due();

    public static void main(String[] args) {
        due.each(
            TermsTest::bytes,
            TermsTest::sums,
            TermsTest::products,
            TermsTest::inverses,
            TermsTest::bitsOfS,
            TermsTest::theKeysOwnWords,
            TermsTest::theWordsGoOn,
            TermsTest::everyFourthWord,
            TermsTest::thePowers,
            TermsTest::forthBeginsWithTheKey,
            TermsTest::eachByteByS,
            TermsTest::bytesChangePlaces,
            TermsTest::fourBytesAreMixed,
            TermsTest::eachRoundEndsWithItsWords,
            TermsTest::goingBack,
            TermsTest::doubling,
            TermsTest::foldingWhenABitFallsOut,
            TermsTest::halfKeys,
            TermsTest::partedIntoBlocks,
            TermsTest::aWholeLastBlock,
            TermsTest::aLastBlockThatIsNotWhole,
            TermsTest::oneBlockAfterAnother,
            TermsTest::theCodeInTheEnd);
        due.close();
    }

    private static String hex(int b) {
        return HexFormat.of().toHexDigits((byte) b);
    }

    private static String times(int b) {
        return hex(b).repeat(16);
    }

    /** Sixteen times a byte, but for one place. */
    private static String butFor(int b, int i, int other) {
        return hex(b).repeat(i) + hex(other) + hex(b).repeat(15 - i);
    }

    private static String some(Random random, int length) {
        byte[] bytes = new byte[length];
        random.nextBytes(bytes);
        return HexFormat.of().formatHex(bytes);
    }

    private static void bytes() {
        due.terms("3, 6, 7, 9, 12, 17 and 18", "BYTES are 0 .. 255");
        BlockCode x = Calls.made(Calls.KEY);
        x.macStart();
        StringBuilder message = new StringBuilder();
        for (int b = 1; b < 255; b += 23) {
            due.yes("setBlockByte(3, " + b + ")", x.setBlockByte(3, b));
            due.same("blockByte(3)", x.blockByte(3), b);
            due.yes("macUpdate(" + b + ")", x.macUpdate(b));
            due.yes("macFill(1, " + (b + 512) + ", 0)", x.macFill(1, b + 512, 0));
            message.append(hex(b)).append(hex(b));
        }
        x.macFinish();
        due.same("code of bytes", Calls.tag(x), Terms.code(Calls.KEY, message.toString()));
        due.yes("setKeyByte(3, 200)", x.setKeyByte(3, 200));
        x.expand();
        due.same("first half key", Calls.half(x, 0), Terms.half(Calls.KEY.substring(0, 6) + "c8"
            + Calls.KEY.substring(8), 0));
    }

    /** Bits that meet in block and key would carry if they were added as numbers are. */
    private static void sums() {
        due.terms(Uses.OF_THE_CIPHER, "THE FIELD: sums bit by bit");
        for (int b : new int[] {1, 3, 85, 170, 240, 255}) {
            Uses.cipher(due, times(b), times(b));
            Uses.cipher(due, times(b), times(255 - b));
        }
    }

    /** Behind S each byte of the block is one of these, and is doubled: see mixing. */
    private static void products() {
        due.terms(Uses.OF_THE_CIPHER, "products as polynomials over bits modulo x^8 + x^4 + x^3 + x + 1");
        for (int bit = 0; bit < 8; bit++) {
            Uses.cipher(due, Calls.ZEROS, times(whoseSIs(1 << bit)));
        }
    }

    private static int whoseSIs(int want) {
        int b = 0;
        while (Terms.s(b) != want) {
            b++;
        }
        return b;
    }

    private static void inverses() {
        due.terms(Uses.OF_THE_CIPHER, "S(b): let c be that byte whose product with b is 1 (0 for 0)");
        for (int b = 0; b < 256; b += 3) {
            Uses.cipher(due, Calls.ZEROS, times(b));
        }
    }

    /** Bytes b whose c is a single bit show where it goes, and 0, whose c has none, shows the bits of 99. */
    private static void bitsOfS() {
        due.terms(Uses.OF_THE_CIPHER, "bit i of S(b) is the sum (modulo 2) of the bits i, i + 4, i + 5, i + 6, i + 7 "
            + "(modulo 8) of c and bit i of 99");
        Uses.cipher(due, Calls.ZEROS, Calls.ZEROS);
        for (int b = 1; b < 256; b++) {
            for (int bit = 0; bit < 8; bit++) {
                if (Terms.product(b, 1 << bit) == 1) {
                    Uses.cipher(due, Calls.ZEROS, times(b));
                    Uses.cipher(due, times(b), times(b));
                }
            }
        }
    }

    /** Each byte of the key has a place of its own in its words. */
    private static void theKeysOwnWords() {
        due.terms(Uses.OF_THE_CIPHER,
            "THE KEY's sixteen bytes are four words w0 .. w3 (32 bits each, highest byte first)");
        for (int i = 0; i < 16; i++) {
            Uses.cipher(due, butFor(0, i, 16 + i), COUNTED);
        }
    }

    private static void theWordsGoOn() {
        due.terms(Uses.OF_THE_CIPHER, "The words go on to w43: wi is w(i - 4) xor x; x is w(i - 1)");
        Random random = new Random(43);
        for (int run = 0; run < 20; run++) {
            Uses.cipher(due, some(random, 16), Calls.ZEROS);
        }
    }

    /** w3 has a byte of its own in each place, and then all 256 in turn. */
    private static void everyFourthWord() {
        due.terms(Uses.OF_THE_CIPHER, "but where 4 divides i: w(i - 1) turned left by 8 bits, each byte by S");
        for (int b = 0; b < 256; b += 4) {
            String word = hex(b) + hex(b + 1) + hex(b + 2) + hex(b + 3);
            Uses.cipher(due, COUNTED.substring(0, 24) + word, Calls.ZEROS);
        }
    }

    /** Under a key of one byte sixteen times the words differ by their powers first of all. */
    private static void thePowers() {
        due.terms(Uses.OF_THE_CIPHER, "and its highest byte xor the (i / 4)-th of 1, 2, 4, .. (each twice the one "
            + "before, in the field)");
        for (int b = 0; b < 256; b += 15) {
            Uses.cipher(due, times(b), Calls.ZEROS);
        }
    }

    private static void forthBeginsWithTheKey() {
        due.terms(Uses.OF_THE_CIPHER, "FORTH: the block b0 .. b15 is xored with the bytes of w0 .. w3");
        Uses.cipher(due, Calls.KEY, Calls.KEY);
        for (int i = 0; i < 16; i++) {
            Uses.cipher(due, Calls.KEY, butFor(0, i, 1 + i));
        }
    }

    /** FIPS 197, B and C.1, and many more: each byte of each round goes through S. */
    private static void eachByteByS() {
        due.terms(Uses.OF_THE_CIPHER, "then for k from 1 to 10: each byte by S");
        Uses.cipher(due, Calls.KEY, "3243f6a8885a308d313198a2e0370734");
        Uses.cipher(due, COUNTED, "00112233445566778899aabbccddeeff");
        Random random = new Random(10);
        for (int run = 0; run < 40; run++) {
            Uses.cipher(due, some(random, 16), some(random, 16));
        }
    }

    private static void bytesChangePlaces() {
        due.terms(Uses.OF_THE_CIPHER, "byte 4 c + r becomes what byte 4 ((c + r) modulo 4) + r was");
        for (int i = 0; i < 16; i++) {
            Uses.cipher(due, Calls.ZEROS, butFor(0, i, 77));
        }
    }

    /** 0x52 is 0 behind S, so that what is mixed first has one byte that is not 0. */
    private static void fourBytesAreMixed() {
        due.terms(Uses.OF_THE_CIPHER, "of each four bytes 4 c .. 4 c + 3, a0 .. a3, byte r becomes "
            + "2 ar + 3 a(r + 1) + a(r + 2) + a(r + 3) (numbers of a modulo 4, in the field)");
        for (int i = 0; i < 16; i++) {
            Uses.cipher(due, Calls.ZEROS, butFor(0x52, i, whoseSIs(1)));
            Uses.cipher(due, Calls.ZEROS, butFor(0x52, i, whoseSIs(200)));
        }
    }

    private static void eachRoundEndsWithItsWords() {
        due.terms(Uses.OF_THE_CIPHER, "then it is xored with the bytes of w(4 k) .. w(4 k + 3)");
        for (int i = 0; i < 16; i++) {
            Uses.cipher(due, butFor(i, 15 - i, 255), times(i));
        }
    }

    private static void goingBack() {
        due.terms(Uses.OF_GOING_BACK, "BACK is what undoes that");
        Random random = new Random(15);
        for (int run = 0; run < 40; run++) {
            String key = some(random, 16);
            String block = some(random, 16);
            Uses.back(due, key, Terms.forth(key, block), block);
            due.same(block + " forth and back", Uses.back(key, Uses.forth(key, block)), block);
            due.same(block + " back and forth", Uses.forth(key, Uses.back(key, block)), block);
        }
    }

    /** The half keys, and a message under each of them. */
    private static void halves(String key) {
        Uses.halfKeys(due, key);
        Uses.code(due, key, COUNTED);
        Uses.code(due, key, COUNTED.substring(2));
    }

    private static void doubling() {
        due.terms(Uses.OF_THE_HALF_KEYS, "DOUBLED: sixteen bytes as one number of 128 bits (the first byte highest) "
            + "are shifted left by one bit");
        for (int b = 64; b < 96; b++) {
            halves(times(b));
        }
    }

    private static void foldingWhenABitFallsOut() {
        due.terms(Uses.OF_THE_HALF_KEYS, "if the highest was 1, the last byte is xored with 135");
        for (int b = 96; b < 128; b++) {
            halves(times(b));
        }
    }

    private static void halfKeys() {
        due.terms(Uses.OF_THE_HALF_KEYS, "The HALF KEYS: the block of zeros, forth, doubled; that doubled once more");
        halves(Calls.KEY);
        halves(Calls.ZEROS);
        halves(COUNTED);
    }

    private static void partedIntoBlocks() {
        due.terms(Uses.OF_THE_CODE, "THE CODE of a message: it is parted into blocks of sixteen bytes");
        Random random = new Random(16);
        for (int length = 0; length <= 80; length += 5) {
            Uses.code(due, Calls.KEY, some(random, length));
        }
    }

    private static void aWholeLastBlock() {
        due.terms(Uses.OF_THE_CODE, "the last one, if it is whole, is xored with the first half key");
        Random random = new Random(1);
        for (int blocks = 1; blocks <= 6; blocks++) {
            Uses.code(due, Calls.KEY, some(random, 16 * blocks));
        }
    }

    private static void aLastBlockThatIsNotWhole() {
        due.terms(Uses.OF_THE_CODE, "otherwise .. a byte 128 comes behind it, and bytes 0 as far as it goes, and it is "
            + "xored with the second half key");
        Random random = new Random(2);
        for (int length = 1; length < 16; length++) {
            Uses.code(due, Calls.KEY, some(random, length));
            Uses.code(due, Calls.KEY, some(random, 32 + length));
        }
    }

    /** Two blocks and three, in order and not: their codes differ. */
    private static void oneBlockAfterAnother() {
        due.terms(Uses.OF_THE_CODE,
            "From a block of zeros on: it is xored with each block in order, and goes forth");
        Uses.code(due, COUNTED, COUNTED + Calls.KEY);
        Uses.code(due, COUNTED, Calls.KEY + COUNTED);
        Uses.code(due, COUNTED, Calls.KEY + COUNTED + Calls.KEY);
        Uses.code(due, COUNTED, Calls.KEY + Calls.KEY + COUNTED + "07");
        due.no("the order of blocks is the same to the code",
            Calls.code(Calls.made(COUNTED), COUNTED + Calls.KEY).equals(
                Calls.code(Calls.made(COUNTED), Calls.KEY + COUNTED)));
    }

    private static void theCodeInTheEnd() {
        due.terms(Uses.OF_THE_CODE, "What it is in the end is the code");
        Random random = new Random(3);
        for (int run = 0; run < 40; run++) {
            Uses.code(due, some(random, 16), some(random, run));
        }
    }
}
