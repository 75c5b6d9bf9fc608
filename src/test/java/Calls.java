import java.util.HexFormat;

/** Runs of calls on a BlockCode that many tests need; bytes are written as two hexadecimal digits each. */
final class Calls {
    static final String ZEROS = "00000000000000000000000000000000";
    /** The key of the examples in RFC 4493 and NIST SP 800-38A. */
    static final String KEY = "2b7e151628aed2a6abf7158809cf4f3c";

    private Calls() {
    }

    static BlockCode ready() {
        BlockCode x = new BlockCode();
        x.init();
        return x;
    }

    static BlockCode made(String key) {
        BlockCode x = ready();
        putKey(x, key);
        x.expand();
        return x;
    }

    static void putKey(BlockCode x, String key) {
        for (int i = 0; i < 16; i++) {
            x.setKeyByte(i, byteOf(key, i));
        }
    }

    static void putBlock(BlockCode x, String block) {
        for (int i = 0; i < 16; i++) {
            x.setBlockByte(i, byteOf(block, i));
        }
    }

    static void feed(BlockCode x, String message) {
        for (int i = 0; i < message.length() / 2; i++) {
            x.macUpdate(byteOf(message, i));
        }
    }

    /** A message from its beginning to its code. */
    static String code(BlockCode x, String message) {
        x.macStart();
        feed(x, message);
        x.macFinish();
        return tag(x);
    }

    static void compareAll(BlockCode x, String code) {
        for (int i = 0; i < 16; i++) {
            x.macCheck(i, byteOf(code, i));
        }
    }

    static String block(BlockCode x) {
        StringBuilder text = new StringBuilder();
        for (int i = 0; i < 16; i++) {
            text.append(shown(x.blockByte(i)));
        }
        return text.toString();
    }

    static String tag(BlockCode x) {
        StringBuilder text = new StringBuilder();
        for (int i = 0; i < 16; i++) {
            text.append(shown(x.tagByte(i)));
        }
        return text.toString();
    }

    static String half(BlockCode x, int which) {
        StringBuilder text = new StringBuilder();
        for (int i = 0; i < 16; i++) {
            text.append(shown(x.half(which, i)));
        }
        return text.toString();
    }

    /** All that can be seen of an object without changing it. */
    static String picture(BlockCode x) {
        return block(x) + " " + half(x, 0) + " " + half(x, 1) + " " + tag(x) + " " + x.macVerdict();
    }

    /** What block, half and tag give when there is none. */
    static String none() {
        return "--".repeat(16);
    }

    static int byteOf(String hex, int i) {
        return Integer.parseInt(hex.substring(2 * i, 2 * i + 2), 16);
    }

    /** An answer that is neither a byte nor -1 is shown too, so that it can't be taken for one. */
    private static String shown(int b) {
        if (b < 0 || b > 255) {
            return b == -1 ? "--" : "<" + b + ">";
        }
        return HexFormat.of().toHexDigits((byte) b);
    }
}
