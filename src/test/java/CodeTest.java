import java.util.HexFormat;

/** Promises 5, 6, 7, 8 and 9: a message from its beginning to its code. */
public final class CodeTest {
    private static final String LONG = "6bc1bee22e409f96e93d7e117393172aae2d8a571e03ac9c9eb76fac45af8e51"
        + "30c81c46a35ce411e5fbc1191a0a52eff69f2445df4f9b17ad2b417be66c3710";
    private static final String OF_NOTHING = "bb1d6929e95937287fa37d129b756746";
    private static final Due due = new Due();

    public static void main(String[] args) {
        due.each(
            CodeTest::knownCodes,
            CodeTest::codesOfEveryShortLength,
            CodeTest::fillIsAsUpdate,
            CodeTest::fillAndUpdateTakeTurns,
            CodeTest::manyMessagesOneAfterAnother);
        due.close();
    }

    /** RFC 4493, the four examples. */
    private static void knownCodes() {
        BlockCode x = Calls.made(Calls.KEY);
        due.same("code of nothing", Calls.code(x, ""), OF_NOTHING);
        due.same("code of 16 bytes", Calls.code(x, LONG.substring(0, 32)), "070a16b46b4d4144f79bdd9dd04a287c");
        due.same("code of 40 bytes", Calls.code(x, LONG.substring(0, 80)), "dfa66747de9ae63030ca32611497c827");
        due.same("code of 64 bytes", Calls.code(x, LONG), "51f0bebf7e3b9d92fc49741779363cfe");
    }

    private static void codesOfEveryShortLength() {
        Oracle oracle = new Oracle(Calls.KEY);
        for (int length = 0; length <= 64; length++) {
            BlockCode x = Calls.made(Calls.KEY);
            String message = LONG.substring(0, 2 * length);
            due.yes("macStart()", x.macStart());
            for (int i = 0; i < length; i++) {
                int b = Calls.byteOf(message, i);
                due.yes("macUpdate(" + b + ")", x.macUpdate(b));
            }
            due.same("tag before the end", Calls.tag(x), Calls.none());
            due.yes("macFinish()", x.macFinish());
            due.same("code of " + length + " bytes", Calls.tag(x), oracle.code(message));
        }
    }

    private static byte[] filled(int n, int v, int step) {
        byte[] bytes = new byte[n];
        for (int i = 0; i < n; i++) {
            bytes[i] = (byte) Math.floorMod((long) v + (long) i * step, 256L);
        }
        return bytes;
    }

    private static void fill(int n, int v, int step) {
        BlockCode x = Calls.made(Calls.KEY);
        String call = "macFill(" + n + ", " + v + ", " + step + ")";
        x.macStart();
        due.yes(call, x.macFill(n, v, step));
        due.yes("macFinish()", x.macFinish());
        String want = HexFormat.of().formatHex(new Oracle(Calls.KEY).code(filled(n, v, step)));
        due.same("code of " + call, Calls.tag(x), want);
    }

    private static void fillIsAsUpdate() {
        for (int n = 0; n <= 50; n++) {
            fill(n, 7, 13);
        }
        fill(33, 0, 0);
        fill(33, 255, 0);
        fill(300, 255, 1);
        fill(300, 0, -1);
    }

    private static void fillAndUpdateTakeTurns() {
        StringBuilder message = new StringBuilder();
        BlockCode x = Calls.made(Calls.KEY);
        x.macStart();
        for (int n : new int[] {3, 0, 12, 1, 16, 0, 15, 17, 32, 5}) {
            x.macFill(n, n, 7);
            message.append(HexFormat.of().formatHex(filled(n, n, 7)));
            x.macUpdate(n + 100);
            message.append(String.format("%02x", n + 100));
        }
        x.macFill(0, 9, 9);
        x.macFinish();
        due.same("code of turns", Calls.tag(x), new Oracle(Calls.KEY).code(message.toString()));
    }

    private static void manyMessagesOneAfterAnother() {
        BlockCode x = Calls.made(Calls.KEY);
        Oracle oracle = new Oracle(Calls.KEY);
        for (int n : new int[] {17, 0, 16, 1, 33, 32, 5}) {
            x.macStart();
            x.macFill(n, n, 3);
            x.macFinish();
            due.same("code of " + n + " bytes in turn", Calls.tag(x),
                HexFormat.of().formatHex(oracle.code(filled(n, n, 3))));
        }
    }
}
