/** Promises 8, 10 and 11: a code compared byte by byte, and the verdict. */
public final class CompareTest {
    private static final String CODE = "bb1d6929e95937287fa37d129b756746";
    private static final Due due = new Due();

    public static void main(String[] args) {
        allSixteenInOrder();
        anyOrderAndAgain();
        oneByteLeftOut();
        oneByteOtherIsNeverForgiven();
        bIsAnyNumber();
        checkRefusesWrongInputs();
        checkWantsACode();
        finishForgetsComparisons();
        theVerdictChangesNothing();
        due.close();
    }

    private static BlockCode coded() {
        BlockCode x = Calls.made(Calls.KEY);
        x.macStart();
        x.macFinish();
        return x;
    }

    private static void allSixteenInOrder() {
        BlockCode x = coded();
        for (int i = 0; i < 16; i++) {
            due.no("macVerdict() after " + i + " bytes", x.macVerdict());
            due.yes("macCheck(" + i + ", ..)", x.macCheck(i, Calls.byteOf(CODE, i)));
        }
        due.yes("macVerdict() after all", x.macVerdict());
        due.same("the code after all", Calls.tag(x), CODE);
    }

    private static void anyOrderAndAgain() {
        BlockCode x = coded();
        for (int k = 0; k < 16; k++) {
            int i = (5 * k + 3) % 16;
            x.macCheck(i, Calls.byteOf(CODE, i));
            x.macCheck(i, Calls.byteOf(CODE, i));
        }
        due.yes("macVerdict() in another order", x.macVerdict());
        x.macCheck(7, Calls.byteOf(CODE, 7));
        due.yes("macVerdict() after one more", x.macVerdict());
    }

    private static void oneByteLeftOut() {
        for (int left = 0; left < 16; left++) {
            BlockCode x = coded();
            for (int i = 0; i < 16; i++) {
                if (i != left) {
                    x.macCheck(i, Calls.byteOf(CODE, i));
                    x.macCheck(i, Calls.byteOf(CODE, i));
                }
            }
            due.no("macVerdict() without byte " + left, x.macVerdict());
            x.macCheck(left, Calls.byteOf(CODE, left));
            due.yes("macVerdict() with byte " + left, x.macVerdict());
        }
    }

    private static void oneByteOtherIsNeverForgiven() {
        for (int i = 0; i < 16; i++) {
            BlockCode x = coded();
            due.yes("macCheck of another byte is a comparison", x.macCheck(i, Calls.byteOf(CODE, i) ^ 1));
            Calls.compareAll(x, CODE);
            due.no("macVerdict() after byte " + i + " was another first", x.macVerdict());
            BlockCode y = coded();
            Calls.compareAll(y, CODE);
            due.yes("macCheck of another byte at last", y.macCheck(i, Calls.byteOf(CODE, i) ^ 128));
            due.no("macVerdict() after byte " + i + " was another at last", y.macVerdict());
            Calls.compareAll(y, CODE);
            due.no("macVerdict() after all once more", y.macVerdict());
        }
    }

    /** Numbers that are no bytes are compared as they are, not by their lowest bits. */
    private static void bIsAnyNumber() {
        int first = Calls.byteOf(CODE, 0);
        for (int b : new int[] {-1, 256, first + 256, first - 256, first | Integer.MIN_VALUE, Integer.MAX_VALUE}) {
            BlockCode x = coded();
            Calls.compareAll(x, CODE);
            due.yes("macCheck(0, " + b + ")", x.macCheck(0, b));
            due.no("macVerdict() after macCheck(0, " + b + ")", x.macVerdict());
        }
    }

    private static void checkRefusesWrongInputs() {
        BlockCode x = coded();
        for (int i : new int[] {-1, 16, 17, 32, Integer.MIN_VALUE, Integer.MAX_VALUE}) {
            due.no("macCheck(" + i + ", 0)", x.macCheck(i, 0));
            due.no("macCheck(" + i + ", -1)", x.macCheck(i, -1));
        }
        Calls.compareAll(x, CODE);
        due.yes("macVerdict() after refusals", x.macVerdict());
        x.macCheck(16, 0);
        x.macCheck(-1, 0);
        due.yes("macVerdict() after refusals at last", x.macVerdict());
    }

    /** Without a code a comparison is refused, and does not count for the code that comes. */
    private static void checkWantsACode() {
        BlockCode x = Calls.made(Calls.KEY);
        due.no("macCheck(0, 0) without a message", x.macCheck(0, 0));
        x.macStart();
        for (int i = 0; i < 16; i++) {
            due.no("macCheck in a message", x.macCheck(i, Calls.byteOf(CODE, i)));
        }
        due.no("macVerdict() in a message", x.macVerdict());
        x.macFinish();
        due.no("macVerdict() at the end", x.macVerdict());
        Calls.compareAll(x, CODE);
        due.yes("macVerdict() after all", x.macVerdict());
    }

    private static void finishForgetsComparisons() {
        BlockCode x = coded();
        Calls.compareAll(x, CODE);
        x.macStart();
        x.macFinish();
        due.same("the same code again", Calls.tag(x), CODE);
        due.no("macVerdict() of the same code anew", x.macVerdict());
        x.macCheck(0, 0);
        x.macStart();
        x.macFinish();
        Calls.compareAll(x, CODE);
        due.yes("macVerdict() after another byte under the code before", x.macVerdict());
    }

    private static void theVerdictChangesNothing() {
        BlockCode x = coded();
        Calls.compareAll(x, CODE);
        due.yes("macVerdict()", x.macVerdict());
        due.yes("macVerdict() again", x.macVerdict());
        x.encryptBlock();
        x.expand();
        x.chain(true);
        x.unchain();
        due.yes("macVerdict() after calls of the cipher", x.macVerdict());
    }
}
