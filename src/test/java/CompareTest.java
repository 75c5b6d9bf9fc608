/** Promises 10 and 11: a code compared byte by byte, and the verdict. */
public final class CompareTest {
    private static final String CODE = "bb1d6929e95937287fa37d129b756746";
    private static final Due due = new Due();

    public static void main(String[] args) {
        due.each(
            CompareTest::eachByteIsCompared,
            CompareTest::comparingChangesNoByte,
            CompareTest::allSixteenInOrder,
            CompareTest::anyOrderAndAgain,
            CompareTest::oneThatDiffered,
            CompareTest::theVerdictStays);
        due.close();
    }

    private static BlockCode coded() {
        BlockCode x = Calls.made(Calls.KEY);
        x.macStart();
        x.macFinish();
        return x;
    }

    /** Fifteen bytes were compared rightly: the verdict shows what came of the one that is left. */
    private static void eachByteIsCompared() {
        due.promise(10, "Byte i of the code is compared with b (any number)");
        for (int i = 0; i < 16; i++) {
            int right = Calls.byteOf(CODE, i);
            for (int b : new int[] {right, right ^ 1, right ^ 128, -5, 1000}) {
                BlockCode x = coded();
                for (int k = 1; k < 16; k++) {
                    x.macCheck((i + k) % 16, Calls.byteOf(CODE, (i + k) % 16));
                }
                due.yes("macCheck(" + i + ", " + b + ")", x.macCheck(i, b));
                due.same("macVerdict() after it", x.macVerdict() ? 1 : 0, b == right ? 1 : 0);
            }
        }
    }

    private static void comparingChangesNoByte() {
        due.promise(10, "Byte i of the code is compared, and stays");
        BlockCode x = coded();
        Calls.compareAll(x, Calls.KEY);
        due.same("the code after other bytes", Calls.tag(x), CODE);
        Calls.compareAll(x, CODE);
        due.same("the code after its own bytes", Calls.tag(x), CODE);
    }

    private static void allSixteenInOrder() {
        due.promise(11, "Whether all sixteen bytes were compared since the code is there");
        BlockCode x = coded();
        for (int i = 0; i < 16; i++) {
            due.no("macVerdict() after " + i + " bytes", x.macVerdict());
            x.macCheck(i, Calls.byteOf(CODE, i));
        }
        due.yes("macVerdict() after all", x.macVerdict());
    }

    private static void anyOrderAndAgain() {
        due.promise(11, "Whether all sixteen bytes were compared since the code is there: in any order");
        BlockCode x = coded();
        for (int k = 0; k < 16; k++) {
            int i = (5 * k + 3) % 16;
            x.macCheck(i, Calls.byteOf(CODE, i));
            due.same("macVerdict() after " + (k + 1) + " bytes", x.macVerdict() ? 1 : 0, k == 15 ? 1 : 0);
            x.macCheck(i, Calls.byteOf(CODE, i));
        }
        due.yes("macVerdict() in another order", x.macVerdict());
        x.macCheck(7, Calls.byteOf(CODE, 7));
        due.yes("macVerdict() after one more", x.macVerdict());
    }

    private static void oneThatDiffered() {
        due.promise(11, "and each time it was that");
        BlockCode x = coded();
        x.macCheck(9, Calls.byteOf(CODE, 9) ^ 4);
        Calls.compareAll(x, CODE);
        due.no("macVerdict() after one that differed", x.macVerdict());
        x.macStart();
        x.macFinish();
        Calls.compareAll(x, CODE);
        due.yes("macVerdict() of the next code", x.macVerdict());
    }

    private static void theVerdictStays() {
        due.promise(11, "Whether all sixteen bytes were compared .. : asked again, and after calls of the cipher");
        BlockCode x = coded();
        Calls.compareAll(x, CODE);
        due.yes("macVerdict()", x.macVerdict());
        due.yes("macVerdict() again", x.macVerdict());
        x.encryptBlock();
        x.expand();
        x.chain(true);
        x.unchain();
        due.yes("macVerdict() after calls of the cipher", x.macVerdict());
    }
}
