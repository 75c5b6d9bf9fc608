import java.util.Arrays;
import java.util.HexFormat;

/**
 * The sentences under "Terms" as they stand there, S found by the field's products and not by a table: like neither
 * the class nor the Java library's cipher. Bytes are written as two hexadecimal digits each.
 */
final class Terms {
    private static final int[] FOUND_S = new int[256];

    static {
        for (int b = 0; b < 256; b++) {
            FOUND_S[b] = s(b);
        }
    }

    private Terms() {
    }

    /** The product as polynomials over bits modulo x^8 + x^4 + x^3 + x + 1. */
    static int product(int a, int b) {
        int whole = 0;
        for (int bit = 0; bit < 8; bit++) {
            whole ^= (b >> bit & 1) * (a << bit);
        }
        for (int bit = 14; bit >= 8; bit--) {
            whole ^= (whole >> bit & 1) * (0b100011011 << bit - 8);
        }
        return whole;
    }

    static int s(int b) {
        int c = 0;
        for (int one = 1; one < 256; one++) {
            c = product(b, one) == 1 ? one : c;
        }
        int result = 0;
        for (int i = 0; i < 8; i++) {
            int bit = bit(c, i) + bit(c, i + 4) + bit(c, i + 5) + bit(c, i + 6) + bit(c, i + 7) + bit(99, i);
            result |= bit % 2 << i;
        }
        return result;
    }

    private static int bit(int b, int i) {
        return b >> i % 8 & 1;
    }

    /** The bytes of w0 .. w43, four rows of four in a row. */
    private static int[] words(int[] key) {
        int[] w = Arrays.copyOf(key, 176);
        int power = 1;
        for (int i = 4; i < 44; i++) {
            for (int r = 0; r < 4; r++) {
                int x = i % 4 == 0 ? FOUND_S[w[4 * (i - 1) + (r + 1) % 4]] : w[4 * (i - 1) + r];
                w[4 * i + r] = w[4 * (i - 4) + r] ^ x;
            }
            if (i % 4 == 0) {
                w[4 * i] ^= power;
                power = product(2, power);
            }
        }
        return w;
    }

    private static int[] xored(int[] block, int[] words, int k) {
        int[] result = new int[16];
        for (int i = 0; i < 16; i++) {
            result[i] = block[i] ^ words[16 * k + i];
        }
        return result;
    }

    private static int[] forth(int[] key, int[] block) {
        int[] w = words(key);
        int[] b = xored(block, w, 0);
        for (int k = 1; k <= 10; k++) {
            b = moved(replaced(b));
            b = xored(k == 10 ? b : mixed(b), w, k);
        }
        return b;
    }

    private static int[] replaced(int[] b) {
        return Arrays.stream(b).map(one -> FOUND_S[one]).toArray();
    }

    private static int[] moved(int[] was) {
        int[] b = new int[16];
        for (int c = 0; c < 4; c++) {
            for (int r = 0; r < 4; r++) {
                b[4 * c + r] = was[4 * ((c + r) % 4) + r];
            }
        }
        return b;
    }

    private static int[] mixed(int[] a) {
        int[] b = new int[16];
        for (int c = 0; c < 4; c++) {
            for (int r = 0; r < 4; r++) {
                b[4 * c + r] = product(2, a[4 * c + r]) ^ product(3, a[4 * c + (r + 1) % 4])
                    ^ a[4 * c + (r + 2) % 4] ^ a[4 * c + (r + 3) % 4];
            }
        }
        return b;
    }

    private static int[] doubled(int[] bytes) {
        int[] result = new int[16];
        for (int bit = 0; bit < 127; bit++) {
            int from = bit + 1;
            result[bit / 8] |= (bytes[from / 8] >> 7 - from % 8 & 1) << 7 - bit % 8;
        }
        result[15] ^= bytes[0] >= 128 ? 135 : 0;
        return result;
    }

    static String forth(String key, String block) {
        return text(forth(bytes(key), bytes(block)));
    }

    /** Whether the highest bit falls out of the first (which = 0) or the second doubling. */
    static boolean falls(String key, int which) {
        int[] zeros = forth(bytes(key), new int[16]);
        return (which == 0 ? zeros : doubled(zeros))[0] >= 128;
    }

    static String half(String key, int which) {
        int[] first = doubled(forth(bytes(key), new int[16]));
        return text(which == 0 ? first : doubled(first));
    }

    static String code(String key, String message) {
        int[] bytes = bytes(message);
        int blocks = Math.max(1, (bytes.length + 15) / 16);
        boolean whole = bytes.length == 16 * blocks;
        int[] parted = Arrays.copyOf(bytes, 16 * blocks);
        if (!whole) {
            parted[bytes.length] = 128;
        }
        int[] sum = new int[16];
        for (int k = 0; k < blocks - 1; k++) {
            sum = forth(bytes(key), xored(sum, parted, k));
        }
        int[] last = xored(sum, parted, blocks - 1);
        return text(forth(bytes(key), xored(last, bytes(half(key, whole ? 0 : 1)), 0)));
    }

    private static int[] bytes(String hex) {
        byte[] parsed = HexFormat.of().parseHex(hex);
        int[] bytes = new int[parsed.length];
        for (int i = 0; i < bytes.length; i++) {
            bytes[i] = parsed[i] & 255;
        }
        return bytes;
    }

    private static String text(int[] bytes) {
        StringBuilder text = new StringBuilder();
        for (int b : bytes) {
            text.append(HexFormat.of().toHexDigits((byte) b));
        }
        return text.toString();
    }
}
