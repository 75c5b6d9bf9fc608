/** Promises 8, 10 and 11: a code compared byte by byte, and the verdict. */
public final class CompareTest {
    private static final String CODE = "bb1d6929e95937287fa37d129b756746";
    private static final Due due = new Due();

    public static void main(String[] args) {
        due.each(
            CompareTest::allSixteenInOrder,
            CompareTest::anyOrderAndAgain,
            CompareTest::theVerdictChangesNothing);
        due.close();
    }

    private static BlockCode coded() {
        BlockCode x = Calls.made(Calls.KEY);
        x.macStart();
        x.macFinish();
        return x;
    }

    private static void allSixteenInOrder() {
        BlockCode x = coded();
        for (int i = 0; i < 16; i++) {
            due.no("macVerdict() after " + i + " bytes", x.macVerdict());
            due.yes("macCheck(" + i + ", ..)", x.macCheck(i, Calls.byteOf(CODE, i)));
        }
        due.yes("macVerdict() after all", x.macVerdict());
        due.same("the code after all", Calls.tag(x), CODE);
    }

    private static void anyOrderAndAgain() {
        BlockCode x = coded();
        for (int k = 0; k < 16; k++) {
            int i = (5 * k + 3) % 16;
            x.macCheck(i, Calls.byteOf(CODE, i));
            x.macCheck(i, Calls.byteOf(CODE, i));
        }
        due.yes("macVerdict() in another order", x.macVerdict());
        x.macCheck(7, Calls.byteOf(CODE, 7));
        due.yes("macVerdict() after one more", x.macVerdict());
    }

    private static void theVerdictChangesNothing() {
        BlockCode x = coded();
        Calls.compareAll(x, CODE);
        due.yes("macVerdict()", x.macVerdict());
        due.yes("macVerdict() again", x.macVerdict());
        x.encryptBlock();
        x.expand();
        x.chain(true);
        x.unchain();
        due.yes("macVerdict() after calls of the cipher", x.macVerdict());
    }
}
