/** What the promises make of the document's terms, each against the terms as they stand there. */
final class Uses {
    /** The promises that the cipher, its key's words and its field are used by. */
    static final String OF_THE_CIPHER = "4, 8, 9, 13, 14, 15 and 18";
    static final String OF_GOING_BACK = "14 and 15";
    static final String OF_THE_HALF_KEYS = "4, 8, 9 and 18";
    static final String OF_THE_CODE = "6, 7, 8, 9, 10 and 11";

    private Uses() {
    }

    /** A block alone and chained, forth and back; the half keys; and the block as a message. */
    static void cipher(Due due, String key, String block) {
        String secret = Terms.forth(key, block);
        due.same("encryptBlock() of " + block + " under " + key, forth(key, block), secret);
        due.same("chain(false) of " + block + " under " + key, chained(key, block, false), secret);
        back(due, key, secret, block);
        halfKeys(due, key);
        due.same("code of " + block + " under " + key, Calls.code(Calls.made(key), block), Terms.code(key, block));
    }

    static void back(Due due, String key, String secret, String block) {
        due.same("decryptBlock() of " + secret + " under " + key, back(key, secret), block);
        due.same("chain(true) of " + secret + " under " + key, chained(key, secret, true), block);
    }

    static void halfKeys(Due due, String key) {
        BlockCode x = Calls.made(key);
        due.same("first half key of " + key, Calls.half(x, 0), Terms.half(key, 0));
        due.same("second half key of " + key, Calls.half(x, 1), Terms.half(key, 1));
    }

    /** The message byte by byte and in two fills' company, and its code seen and compared. */
    static void code(Due due, String key, String message) {
        String code = Terms.code(key, message);
        String of = " of " + message.length() / 2 + " bytes " + message + " under " + key;
        BlockCode x = Calls.made(key);
        due.same("code" + of, Calls.code(x, message), code);
        Calls.compareAll(x, code);
        due.yes("macVerdict() of the code" + of, x.macVerdict());
        due.same("code by fills" + of, filled(Calls.made(key), message), code);
    }

    private static String filled(BlockCode x, String message) {
        x.macStart();
        for (int i = 0; i < message.length() / 2; i++) {
            x.macFill(1, Calls.byteOf(message, i) - 256, 0);
        }
        x.macFinish();
        return Calls.tag(x);
    }

    static String forth(String key, String block) {
        BlockCode x = with(key, block);
        x.encryptBlock();
        return Calls.block(x);
    }

    static String back(String key, String block) {
        BlockCode x = with(key, block);
        x.decryptBlock();
        return Calls.block(x);
    }

    /** The first of a chain: the one before is zeros. */
    private static String chained(String key, String block, boolean back) {
        BlockCode x = with(key, block);
        x.chain(back);
        return Calls.block(x);
    }

    private static BlockCode with(String key, String block) {
        BlockCode x = Calls.made(key);
        Calls.putBlock(x, block);
        return x;
    }
}
