import java.util.Arrays;

/**
 * A cipher of blocks of sixteen bytes under a key of sixteen, forth and back, alone and chained; a code of a
 * message of any length by it, fed byte by byte, and compared byte by byte.
 */
public final class BlockCode {
    /** The bytes of a block, of the key, of a half key and of a code. */
    private static final int SIZE = 16;
    private static final int ROUNDS = 10;
    private static final int WORD_BYTES = SIZE * (ROUNDS + 1);
    private static final int LONGEST_FILL = 10000;
    /** One bit for each byte of a code. */
    private static final int ALL_COMPARED = 0xffff;

    /** S is written out because 256 inverses in the field would be dear to find for each new object. */
    private static final int[] S = {
        0x63, 0x7c, 0x77, 0x7b, 0xf2, 0x6b, 0x6f, 0xc5, 0x30, 0x01, 0x67, 0x2b, 0xfe, 0xd7, 0xab, 0x76,
        0xca, 0x82, 0xc9, 0x7d, 0xfa, 0x59, 0x47, 0xf0, 0xad, 0xd4, 0xa2, 0xaf, 0x9c, 0xa4, 0x72, 0xc0,
        0xb7, 0xfd, 0x93, 0x26, 0x36, 0x3f, 0xf7, 0xcc, 0x34, 0xa5, 0xe5, 0xf1, 0x71, 0xd8, 0x31, 0x15,
        0x04, 0xc7, 0x23, 0xc3, 0x18, 0x96, 0x05, 0x9a, 0x07, 0x12, 0x80, 0xe2, 0xeb, 0x27, 0xb2, 0x75,
        0x09, 0x83, 0x2c, 0x1a, 0x1b, 0x6e, 0x5a, 0xa0, 0x52, 0x3b, 0xd6, 0xb3, 0x29, 0xe3, 0x2f, 0x84,
        0x53, 0xd1, 0x00, 0xed, 0x20, 0xfc, 0xb1, 0x5b, 0x6a, 0xcb, 0xbe, 0x39, 0x4a, 0x4c, 0x58, 0xcf,
        0xd0, 0xef, 0xaa, 0xfb, 0x43, 0x4d, 0x33, 0x85, 0x45, 0xf9, 0x02, 0x7f, 0x50, 0x3c, 0x9f, 0xa8,
        0x51, 0xa3, 0x40, 0x8f, 0x92, 0x9d, 0x38, 0xf5, 0xbc, 0xb6, 0xda, 0x21, 0x10, 0xff, 0xf3, 0xd2,
        0xcd, 0x0c, 0x13, 0xec, 0x5f, 0x97, 0x44, 0x17, 0xc4, 0xa7, 0x7e, 0x3d, 0x64, 0x5d, 0x19, 0x73,
        0x60, 0x81, 0x4f, 0xdc, 0x22, 0x2a, 0x90, 0x88, 0x46, 0xee, 0xb8, 0x14, 0xde, 0x5e, 0x0b, 0xdb,
        0xe0, 0x32, 0x3a, 0x0a, 0x49, 0x06, 0x24, 0x5c, 0xc2, 0xd3, 0xac, 0x62, 0x91, 0x95, 0xe4, 0x79,
        0xe7, 0xc8, 0x37, 0x6d, 0x8d, 0xd5, 0x4e, 0xa9, 0x6c, 0x56, 0xf4, 0xea, 0x65, 0x7a, 0xae, 0x08,
        0xba, 0x78, 0x25, 0x2e, 0x1c, 0xa6, 0xb4, 0xc6, 0xe8, 0xdd, 0x74, 0x1f, 0x4b, 0xbd, 0x8b, 0x8a,
        0x70, 0x3e, 0xb5, 0x66, 0x48, 0x03, 0xf6, 0x0e, 0x61, 0x35, 0x57, 0xb9, 0x86, 0xc1, 0x1d, 0x9e,
        0xe1, 0xf8, 0x98, 0x11, 0x69, 0xd9, 0x8e, 0x94, 0x9b, 0x1e, 0x87, 0xe9, 0xce, 0x55, 0x28, 0xdf,
        0x8c, 0xa1, 0x89, 0x0d, 0xbf, 0xe6, 0x42, 0x68, 0x41, 0x99, 0x2d, 0x0f, 0xb0, 0x54, 0xbb, 0x16,
    };

    /** The byte whose S it is. */
    private static final int[] UNDO_S = {
        0x52, 0x09, 0x6a, 0xd5, 0x30, 0x36, 0xa5, 0x38, 0xbf, 0x40, 0xa3, 0x9e, 0x81, 0xf3, 0xd7, 0xfb,
        0x7c, 0xe3, 0x39, 0x82, 0x9b, 0x2f, 0xff, 0x87, 0x34, 0x8e, 0x43, 0x44, 0xc4, 0xde, 0xe9, 0xcb,
        0x54, 0x7b, 0x94, 0x32, 0xa6, 0xc2, 0x23, 0x3d, 0xee, 0x4c, 0x95, 0x0b, 0x42, 0xfa, 0xc3, 0x4e,
        0x08, 0x2e, 0xa1, 0x66, 0x28, 0xd9, 0x24, 0xb2, 0x76, 0x5b, 0xa2, 0x49, 0x6d, 0x8b, 0xd1, 0x25,
        0x72, 0xf8, 0xf6, 0x64, 0x86, 0x68, 0x98, 0x16, 0xd4, 0xa4, 0x5c, 0xcc, 0x5d, 0x65, 0xb6, 0x92,
        0x6c, 0x70, 0x48, 0x50, 0xfd, 0xed, 0xb9, 0xda, 0x5e, 0x15, 0x46, 0x57, 0xa7, 0x8d, 0x9d, 0x84,
        0x90, 0xd8, 0xab, 0x00, 0x8c, 0xbc, 0xd3, 0x0a, 0xf7, 0xe4, 0x58, 0x05, 0xb8, 0xb3, 0x45, 0x06,
        0xd0, 0x2c, 0x1e, 0x8f, 0xca, 0x3f, 0x0f, 0x02, 0xc1, 0xaf, 0xbd, 0x03, 0x01, 0x13, 0x8a, 0x6b,
        0x3a, 0x91, 0x11, 0x41, 0x4f, 0x67, 0xdc, 0xea, 0x97, 0xf2, 0xcf, 0xce, 0xf0, 0xb4, 0xe6, 0x73,
        0x96, 0xac, 0x74, 0x22, 0xe7, 0xad, 0x35, 0x85, 0xe2, 0xf9, 0x37, 0xe8, 0x1c, 0x75, 0xdf, 0x6e,
        0x47, 0xf1, 0x1a, 0x71, 0x1d, 0x29, 0xc5, 0x89, 0x6f, 0xb7, 0x62, 0x0e, 0xaa, 0x18, 0xbe, 0x1b,
        0xfc, 0x56, 0x3e, 0x4b, 0xc6, 0xd2, 0x79, 0x20, 0x9a, 0xdb, 0xc0, 0xfe, 0x78, 0xcd, 0x5a, 0xf4,
        0x1f, 0xdd, 0xa8, 0x33, 0x88, 0x07, 0xc7, 0x31, 0xb1, 0x12, 0x10, 0x59, 0x27, 0x80, 0xec, 0x5f,
        0x60, 0x51, 0x7f, 0xa9, 0x19, 0xb5, 0x4a, 0x0d, 0x2d, 0xe5, 0x7a, 0x9f, 0x93, 0xc9, 0x9c, 0xef,
        0xa0, 0xe0, 0x3b, 0x4d, 0xae, 0x2a, 0xf5, 0xb0, 0xc8, 0xeb, 0xbb, 0x3c, 0x83, 0x53, 0x99, 0x61,
        0x17, 0x2b, 0x04, 0x7e, 0xba, 0x77, 0xd6, 0x26, 0xe1, 0x69, 0x14, 0x63, 0x55, 0x21, 0x0c, 0x7d,
    };

    private final Key key;
    private final Message message;
    private final int[] block;
    private final int[] before;
    /** The block as it was, while it goes back in a chain. */
    private final int[] kept;
    private boolean ready;

    public BlockCode() {
        key = new Key();
        message = new Message();
        block = new int[SIZE];
        before = new int[SIZE];
        kept = new int[SIZE];
        ready = false;
    }

    // Only an object that is ready can have a key made or a message begun: the calls that want one of these
    // need not ask for readiness as well.

    public void init() {
        ready = true;
        key.clear();
        message.drop();
    }

    public boolean setKeyByte(int i, int b) {
        if (!ready || !isPlace(i) || !isByte(b)) {
            return false;
        }
        key.put(i, b);
        message.drop();
        return true;
    }

    public boolean expand() {
        if (!ready) {
            return false;
        }
        key.make();
        return true;
    }

    public boolean macStart() {
        if (!key.made) {
            return false;
        }
        message.begin();
        return true;
    }

    public boolean macUpdate(int b) {
        if (!message.open || !isByte(b)) {
            return false;
        }
        message.take(b, key);
        return true;
    }

    public boolean macFill(int n, int v, int step) {
        if (!message.open || n < 0 || n > LONGEST_FILL) {
            return false;
        }
        int next = v;
        for (int count = 0; count < n; count++) {
            message.take(next & 255, key);
            // The sum may wrap around: its lowest eight bits are right all the same.
            next += step;
        }
        return true;
    }

    public boolean macFinish() {
        if (!message.open) {
            return false;
        }
        message.end(key);
        return true;
    }

    public int tagByte(int i) {
        return message.ended && isPlace(i) ? message.sum[i] : -1;
    }

    public boolean macCheck(int i, int b) {
        if (!message.ended || !isPlace(i)) {
            return false;
        }
        message.compare(i, b);
        return true;
    }

    public boolean macVerdict() {
        return message.ended && message.compared == ALL_COMPARED && !message.differed;
    }

    public boolean setBlockByte(int i, int b) {
        if (!ready || !isPlace(i) || !isByte(b)) {
            return false;
        }
        block[i] = b;
        return true;
    }

    public boolean encryptBlock() {
        if (!key.made) {
            return false;
        }
        key.goForth(block);
        return true;
    }

    public boolean decryptBlock() {
        if (!key.made) {
            return false;
        }
        key.goBack(block);
        return true;
    }

    public boolean chain(boolean back) {
        if (!key.made) {
            return false;
        }
        if (back) {
            chainBack();
        } else {
            chainForth();
        }
        return true;
    }

    public boolean unchain() {
        if (!ready) {
            return false;
        }
        Arrays.fill(before, 0);
        return true;
    }

    public int blockByte(int i) {
        return ready && isPlace(i) ? block[i] : -1;
    }

    public int half(int which, int i) {
        if (!key.made || !isPlace(i)) {
            return -1;
        }
        if (which == 0) {
            return key.firstHalf[i];
        }
        return which == 1 ? key.secondHalf[i] : -1;
    }

    private void chainForth() {
        xor(block, before, 0);
        key.goForth(block);
        System.arraycopy(block, 0, before, 0, SIZE);
    }

    private void chainBack() {
        System.arraycopy(block, 0, kept, 0, SIZE);
        key.goBack(block);
        xor(block, before, 0);
        System.arraycopy(kept, 0, before, 0, SIZE);
    }

    private static boolean isPlace(int i) {
        return i >= 0 && i < SIZE;
    }

    private static boolean isByte(int b) {
        return b >= 0 && b <= 255;
    }

    /** Xors sixteen bytes with the sixteen of another row that begin at a place of it. */
    private static void xor(int[] bytes, int[] others, int from) {
        for (int i = 0; i < SIZE; i++) {
            bytes[i] ^= others[from + i];
        }
    }

    /** The key, what is made of it, and the cipher's two ways under it. */
    private static final class Key {
        private final int[] bytes;
        /** The words w0 .. w43 byte by byte, so that the four of a round are sixteen bytes in a row. */
        private final int[] words;
        private final int[] firstHalf;
        private final int[] secondHalf;
        /** Where a block's bytes are put while they change places. */
        private final int[] moved;
        private boolean made;

        Key() {
            bytes = new int[SIZE];
            words = new int[WORD_BYTES];
            firstHalf = new int[SIZE];
            secondHalf = new int[SIZE];
            moved = new int[SIZE];
            made = false;
        }

        void clear() {
            Arrays.fill(bytes, 0);
            made = false;
        }

        void put(int i, int b) {
            bytes[i] = b;
            made = false;
        }

        void make() {
            makeWords();
            makeHalves();
            made = true;
        }

        private void makeWords() {
            System.arraycopy(bytes, 0, words, 0, SIZE);
            int power = 1;
            for (int at = SIZE; at < WORD_BYTES; at += 4) {
                if (at % SIZE == 0) {
                    makeTurnedWord(at, power);
                    power = twice(power);
                } else {
                    makePlainWord(at);
                }
            }
        }

        private void makePlainWord(int at) {
            for (int r = 0; r < 4; r++) {
                words[at + r] = words[at - SIZE + r] ^ words[at - 4 + r];
            }
        }

        private void makeTurnedWord(int at, int power) {
            for (int r = 0; r < 4; r++) {
                words[at + r] = words[at - SIZE + r] ^ S[words[at - 4 + (r + 1) % 4]];
            }
            words[at] ^= power;
        }

        private void makeHalves() {
            Arrays.fill(firstHalf, 0);
            goForth(firstHalf);
            putDoubled(firstHalf, firstHalf);
            putDoubled(firstHalf, secondHalf);
        }

        /** The two rows may be the same one: each byte is read before it is written. */
        private static void putDoubled(int[] from, int[] to) {
            int fold = from[0] >= 128 ? 135 : 0;
            for (int i = 0; i < SIZE - 1; i++) {
                to[i] = (from[i] << 1 & 255) | from[i + 1] >> 7;
            }
            to[SIZE - 1] = (from[SIZE - 1] << 1 & 255) ^ fold;
        }

        void goForth(int[] b) {
            xor(b, words, 0);
            for (int k = 1; k <= ROUNDS; k++) {
                replaceAndMove(b);
                if (k < ROUNDS) {
                    mix(b);
                }
                xor(b, words, SIZE * k);
            }
        }

        void goBack(int[] b) {
            for (int k = ROUNDS; k >= 1; k--) {
                xor(b, words, SIZE * k);
                if (k < ROUNDS) {
                    unmix(b);
                }
                moveAndReplaceBack(b);
            }
            xor(b, words, 0);
        }

        private void replaceAndMove(int[] b) {
            for (int i = 0; i < SIZE; i++) {
                moved[i] = S[b[source(i)]];
            }
            System.arraycopy(moved, 0, b, 0, SIZE);
        }

        private void moveAndReplaceBack(int[] b) {
            for (int i = 0; i < SIZE; i++) {
                moved[source(i)] = UNDO_S[b[i]];
            }
            System.arraycopy(moved, 0, b, 0, SIZE);
        }

        /** Which byte moves to place i = 4 c + r: that is 4 ((c + r) modulo 4) + r. */
        private static int source(int i) {
            return (i + 4 * (i % 4)) % SIZE;
        }

        private static void mix(int[] b) {
            for (int at = 0; at < SIZE; at += 4) {
                int a0 = b[at];
                int a1 = b[at + 1];
                int a2 = b[at + 2];
                int a3 = b[at + 3];
                b[at] = mixed(a0, a1, a2, a3);
                b[at + 1] = mixed(a1, a2, a3, a0);
                b[at + 2] = mixed(a2, a3, a0, a1);
                b[at + 3] = mixed(a3, a0, a1, a2);
            }
        }

        /** Four mixings leave a block as it was, so three more undo one. */
        private static void unmix(int[] b) {
            mix(b);
            mix(b);
            mix(b);
        }

        private static int mixed(int a, int next, int third, int last) {
            return twice(a ^ next) ^ next ^ third ^ last;
        }

        /** Twice a byte in the field, where x^8 is x^4 + x^3 + x + 1. */
        private static int twice(int a) {
            return a < 128 ? a << 1 : (a << 1) ^ 0x11b;
        }
    }

    /**
     * A message, and how its code has been compared. The key that comes with each byte is the same one from the
     * beginning to the end, and made: a change of it drops the message.
     */
    private static final class Message {
        /** What the message so far comes to; the code when it has ended. */
        private final int[] sum;
        /** How many bytes of the newest block are in the sum, which goes forth when that block is not the last. */
        private int filled;
        private boolean open;
        private boolean ended;
        /** Bit i is set when byte i of the code has been compared. */
        private int compared;
        private boolean differed;

        Message() {
            sum = new int[SIZE];
            filled = 0;
            open = false;
            ended = false;
            compared = 0;
            differed = false;
        }

        void drop() {
            open = false;
            ended = false;
        }

        void begin() {
            Arrays.fill(sum, 0);
            filled = 0;
            open = true;
            ended = false;
        }

        void take(int b, Key key) {
            if (filled == SIZE) {
                key.goForth(sum);
                filled = 0;
            }
            sum[filled] ^= b;
            filled++;
        }

        void end(Key key) {
            if (filled == SIZE) {
                xor(sum, key.firstHalf, 0);
            } else {
                sum[filled] ^= 128;
                xor(sum, key.secondHalf, 0);
            }
            key.goForth(sum);
            open = false;
            ended = true;
            compared = 0;
            differed = false;
        }

        void compare(int i, int b) {
            compared |= 1 << i;
            if (sum[i] != b) {
                differed = true;
            }
        }
    }
}
