import java.util.HexFormat;

/** Promises 5, 6, 7, 8 and 9: a message from its beginning to its code. */
public final class CodeTest {
    private static final String LONG = "6bc1bee22e409f96e93d7e117393172aae2d8a571e03ac9c9eb76fac45af8e51"
        + "30c81c46a35ce411e5fbc1191a0a52eff69f2445df4f9b17ad2b417be66c3710";
    private static final String OF_NOTHING = "bb1d6929e95937287fa37d129b756746";
    private static final String OF_SIXTEEN = "070a16b46b4d4144f79bdd9dd04a287c";
    private static final Due due = new Due();

    public static void main(String[] args) {
        due.each(
            CodeTest::aMessageBegins,
            CodeTest::aMessageBeginsAnew,
            CodeTest::messagesOfEveryShortLength,
            CodeTest::fillIsAsUpdate,
            CodeTest::fillAndUpdateTakeTurns,
            CodeTest::theMessageEnds,
            CodeTest::manyMessagesOneAfterAnother,
            CodeTest::knownCodes);
        due.close();
    }

    private static void aMessageBegins() {
        due.promise(5, "A message begins");
        BlockCode x = Calls.made(Calls.KEY);
        due.no("macUpdate(1) before", x.macUpdate(1));
        due.yes("macStart()", x.macStart());
        due.yes("macUpdate(107)", x.macUpdate(0x6b));
        Calls.feed(x, LONG.substring(2, 32));
        due.yes("macFinish()", x.macFinish());
        due.same("its code", Calls.tag(x), OF_SIXTEEN);
    }

    private static void aMessageBeginsAnew() {
        due.promise(5, "(another one is none any more)");
        BlockCode x = Calls.made(Calls.KEY);
        x.macStart();
        Calls.feed(x, "0102030405");
        due.yes("macStart() in a message", x.macStart());
        Calls.feed(x, LONG.substring(0, 32));
        x.macFinish();
        due.same("code without what was before", Calls.tag(x), OF_SIXTEEN);
        due.yes("macStart() after a code", x.macStart());
        due.same("tag after macStart", Calls.tag(x), Calls.none());
        due.no("macCheck(0, 7) after macStart", x.macCheck(0, 7));
    }

    private static void messagesOfEveryShortLength() {
        due.promise(6, "A byte of the message");
        Oracle oracle = new Oracle(Calls.KEY);
        for (int length = 0; length <= 64; length++) {
            BlockCode x = Calls.made(Calls.KEY);
            String message = LONG.substring(0, 2 * length);
            x.macStart();
            for (int i = 0; i < length; i++) {
                int b = Calls.byteOf(message, i);
                due.yes("macUpdate(" + b + ")", x.macUpdate(b));
            }
            x.macFinish();
            due.same("code of " + length + " bytes", Calls.tag(x), oracle.code(message));
        }
    }

    private static byte[] filled(int n, int v, int step) {
        byte[] bytes = new byte[n];
        for (int i = 0; i < n; i++) {
            bytes[i] = (byte) Math.floorMod((long) v + (long) i * step, 256L);
        }
        return bytes;
    }

    private static void fill(int n, int v, int step) {
        BlockCode x = Calls.made(Calls.KEY);
        String call = "macFill(" + n + ", " + v + ", " + step + ")";
        x.macStart();
        due.yes(call, x.macFill(n, v, step));
        x.macFinish();
        String want = HexFormat.of().formatHex(new Oracle(Calls.KEY).code(filled(n, v, step)));
        due.same("code of " + call, Calls.tag(x), want);
    }

    private static void fillIsAsUpdate() {
        due.promise(7, "n bytes more, each the lowest eight bits of v, v + step, v + 2 step, ..");
        for (int n = 0; n <= 50; n++) {
            fill(n, 7, 13);
        }
        fill(33, 0, 0);
        fill(33, 255, 0);
        fill(300, 255, 1);
        fill(300, 0, -1);
    }

    private static void fillAndUpdateTakeTurns() {
        due.promise(7, "n bytes more .. as macUpdate");
        StringBuilder message = new StringBuilder();
        BlockCode x = Calls.made(Calls.KEY);
        x.macStart();
        for (int n : new int[] {3, 0, 12, 1, 16, 0, 15, 17, 32, 5}) {
            due.yes("macFill(" + n + ", " + n + ", 7)", x.macFill(n, n, 7));
            message.append(HexFormat.of().formatHex(filled(n, n, 7)));
            x.macUpdate(n + 100);
            message.append(String.format("%02x", n + 100));
        }
        x.macFill(0, 9, 9);
        x.macFinish();
        due.same("code of turns", Calls.tag(x), new Oracle(Calls.KEY).code(message.toString()));
    }

    private static void theMessageEnds() {
        due.promise(8, "The message has ended: its code is there");
        BlockCode x = Calls.made(Calls.KEY);
        x.macStart();
        Calls.feed(x, LONG);
        due.same("tag before the end", Calls.tag(x), Calls.none());
        due.yes("macFinish()", x.macFinish());
        due.same("tag", Calls.tag(x), "51f0bebf7e3b9d92fc49741779363cfe");
        due.no("macUpdate(1) after the end", x.macUpdate(1));
        due.no("macFill(1, 1, 1) after the end", x.macFill(1, 1, 1));
        due.no("macFinish() after the end", x.macFinish());
        due.no("macVerdict() of nothing compared", x.macVerdict());
        due.same("tag still", Calls.tag(x), "51f0bebf7e3b9d92fc49741779363cfe");
    }

    private static void manyMessagesOneAfterAnother() {
        due.promise(8, "its code is there: that of each of many messages");
        BlockCode x = Calls.made(Calls.KEY);
        Oracle oracle = new Oracle(Calls.KEY);
        for (int n : new int[] {17, 0, 16, 1, 33, 32, 5}) {
            x.macStart();
            x.macFill(n, n, 3);
            due.yes("macFinish()", x.macFinish());
            due.same("code of " + n + " bytes in turn", Calls.tag(x),
                HexFormat.of().formatHex(oracle.code(filled(n, n, 3))));
        }
    }

    /** RFC 4493, the four examples. */
    private static void knownCodes() {
        due.promise(9, "Byte i of the code");
        BlockCode x = Calls.made(Calls.KEY);
        due.same("code of nothing", Calls.code(x, ""), OF_NOTHING);
        due.same("code of 16 bytes", Calls.code(x, LONG.substring(0, 32)), OF_SIXTEEN);
        due.same("code of 40 bytes", Calls.code(x, LONG.substring(0, 80)), "dfa66747de9ae63030ca32611497c827");
        due.same("code of 64 bytes", Calls.code(x, LONG), "51f0bebf7e3b9d92fc49741779363cfe");
        due.same("code of 64 bytes, looked at again", Calls.tag(x), "51f0bebf7e3b9d92fc49741779363cfe");
    }
}
