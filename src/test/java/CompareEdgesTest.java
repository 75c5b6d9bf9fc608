import java.util.List;

/** The boundary cases of promises 10 and 11, each under the sentence that names it. */
public final class CompareEdgesTest {
    private static final String CODE = "bb1d6929e95937287fa37d129b756746";
    private static final List<State> CODED = State.that(s -> s.hasCode());
    private static final List<State> NOT_CODED = State.that(s -> !s.hasCode());
    private static final Due due = new Due();

    public static void main(String[] args) {
        due.each(
            CompareEdgesTest::checkOfNumbersThatAreNoBytes,
            CompareEdgesTest::checkOfNumbersWithTheRightLowestBits,
            CompareEdgesTest::checkOfTheLeastAndTheGreatestByte,
            CompareEdgesTest::checkAtItsFirstAndLastPlace,
            CompareEdgesTest::checkOfNoPlace,
            CompareEdgesTest::checkWantsACode,
            CompareEdgesTest::verdictOfNoneAndOfAll,
            CompareEdgesTest::verdictWithoutOneOfSixteen,
            CompareEdgesTest::verdictOfOneByteSixteenTimes,
            CompareEdgesTest::verdictOfComparisonsBeforeTheCode,
            CompareEdgesTest::verdictOfAByteThatWasOtherOnce,
            CompareEdgesTest::verdictWithoutACode);
        due.close();
    }

    private static BlockCode coded() {
        return State.ENDED_EMPTY.object();
    }

    private static void check(BlockCode x, int i) {
        due.yes("macCheck(" + i + ", the right byte)", x.macCheck(i, Calls.byteOf(CODE, i)));
    }

    private static void isCompared(int i, int b) {
        BlockCode x = coded();
        Calls.compareAll(x, CODE);
        due.yes("macCheck(" + i + ", " + b + ")", x.macCheck(i, b));
        due.no("macVerdict() after macCheck(" + i + ", " + b + ")", x.macVerdict());
        Calls.compareAll(x, CODE);
        due.no("macVerdict() after all once more", x.macVerdict());
    }

    private static void checkOfNumbersThatAreNoBytes() {
        due.promise(10, "Byte i of the code is compared with b (any number): too small, too large for a byte");
        for (int b : new int[] {-1, 256, Integer.MIN_VALUE, Integer.MAX_VALUE}) {
            for (int i = 0; i < 16; i++) {
                isCompared(i, b);
            }
        }
    }

    private static void checkOfNumbersWithTheRightLowestBits() {
        due.promise(10, "Byte i of the code is compared with b (any number): as it is, not by its lowest bits");
        for (int i = 0; i < 16; i++) {
            int right = Calls.byteOf(CODE, i);
            for (int b : new int[] {right + 256, right - 256, right | Integer.MIN_VALUE, ~right, -right}) {
                isCompared(i, b);
            }
        }
    }

    /** A code with a byte 0 and one with a byte 255 are looked for: there the edges are the right bytes. */
    private static void checkOfTheLeastAndTheGreatestByte() {
        due.promise(10, "Byte i of the code is compared with b (any number): 0 and 255");
        isCompared(0, 0);
        isCompared(0, 255);
        for (int edge : new int[] {0, 255}) {
            int v = 0;
            while (v < 2000 && Terms.code(Calls.KEY, message(v)).indexOf(edge == 0 ? "00" : "ff") % 2 != 0) {
                v++;
            }
            BlockCode x = Calls.made(Calls.KEY);
            String code = Calls.code(x, message(v));
            int i = code.indexOf(edge == 0 ? "00" : "ff") / 2;
            due.same("tagByte(" + i + ")", x.tagByte(i), edge);
            Calls.compareAll(x, code);
            due.yes("macCheck(" + i + ", " + edge + ")", x.macCheck(i, edge));
            due.yes("macVerdict() after it", x.macVerdict());
        }
    }

    private static String message(int v) {
        return String.format("%04x", v);
    }

    private static void checkAtItsFirstAndLastPlace() {
        due.promise(10, "Wants i from 0 to 15: the first and the last");
        for (int i : new int[] {0, 15}) {
            BlockCode x = coded();
            for (int other = 0; other < 16; other++) {
                if (other != i) {
                    x.macCheck(other, Calls.byteOf(CODE, other));
                }
            }
            due.no("macVerdict() without byte " + i, x.macVerdict());
            check(x, i);
            due.yes("macVerdict() with byte " + i, x.macVerdict());
        }
    }

    private static void checkOfNoPlace() {
        due.promise(10, "Wants i from 0 to 15: too small, too large");
        for (int i : new int[] {-1, 16, 31, 32, -32, Integer.MIN_VALUE, Integer.MAX_VALUE}) {
            Refusal.isFalse(due, CODED, "macCheck(" + i + ", 0)", x -> x.macCheck(i, 0));
            Refusal.isFalse(due, CODED, "macCheck(" + i + ", -1)", x -> x.macCheck(i, -1));
        }
    }

    private static void checkWantsACode() {
        due.promise(10, "Wants a code");
        for (int i : new int[] {0, 7, 15, 16}) {
            Refusal.isFalse(due, NOT_CODED, "macCheck(" + i + ", 0)", x -> x.macCheck(i, 0));
            Refusal.isFalse(due, NOT_CODED, "macCheck(" + i + ", -1)", x -> x.macCheck(i, -1));
        }
    }

    private static void verdictOfNoneAndOfAll() {
        due.promise(11, "Whether all sixteen bytes were compared: none, and one after another to the last");
        for (boolean fromTheLast : new boolean[] {false, true}) {
            BlockCode x = coded();
            for (int k = 0; k < 16; k++) {
                due.no("macVerdict() after " + k + " bytes", x.macVerdict());
                check(x, fromTheLast ? 15 - k : k);
            }
            due.yes("macVerdict() after all", x.macVerdict());
            check(x, 0);
            due.yes("macVerdict() after one of them again", x.macVerdict());
        }
    }

    private static void verdictWithoutOneOfSixteen() {
        due.promise(11, "Whether all sixteen bytes were compared: all but one");
        for (int left = 0; left < 16; left++) {
            BlockCode x = coded();
            for (int i = 0; i < 16; i++) {
                if (i != left) {
                    check(x, i);
                }
            }
            due.no("macVerdict() without byte " + left, x.macVerdict());
        }
    }

    private static void verdictOfOneByteSixteenTimes() {
        due.promise(11, "Whether all sixteen bytes were compared: one of them sixteen times");
        for (int i = 0; i < 16; i++) {
            BlockCode x = coded();
            for (int k = 0; k < 16; k++) {
                check(x, i);
            }
            due.no("macVerdict() of byte " + i + " alone", x.macVerdict());
        }
    }

    /** Those that were refused before the code was there, and those of the code before it. */
    private static void verdictOfComparisonsBeforeTheCode() {
        due.promise(11, "since the code is there");
        BlockCode x = State.EMPTY_MESSAGE.object();
        Calls.compareAll(x, CODE);
        x.macFinish();
        due.no("macVerdict() of comparisons that were refused", x.macVerdict());
        Calls.compareAll(x, CODE);
        due.yes("macVerdict() of all", x.macVerdict());
        x.macStart();
        x.macFinish();
        due.no("macVerdict() of comparisons of the code before", x.macVerdict());
        BlockCode y = State.EMPTY_MESSAGE.object();
        due.no("macCheck(3, -1) in a message", y.macCheck(3, -1));
        y.macFinish();
        Calls.compareAll(y, CODE);
        due.yes("macVerdict() after another byte that was refused", y.macVerdict());
    }

    private static void verdictOfAByteThatWasOtherOnce() {
        due.promise(11, "and each time it was that");
        for (int i = 0; i < 16; i++) {
            for (int bit = 0; bit < 8; bit++) {
                int other = Calls.byteOf(CODE, i) ^ 1 << bit;
                BlockCode first = coded();
                first.macCheck(i, other);
                Calls.compareAll(first, CODE);
                due.no("macVerdict() after macCheck(" + i + ", " + other + ") first", first.macVerdict());
                BlockCode last = coded();
                Calls.compareAll(last, CODE);
                last.macCheck(i, other);
                due.no("macVerdict() after macCheck(" + i + ", " + other + ") last", last.macVerdict());
                last.macCheck(i, Calls.byteOf(CODE, i));
                due.no("macVerdict() after the right byte again", last.macVerdict());
            }
        }
    }

    private static void verdictWithoutACode() {
        due.promise(11, "false without a code");
        Refusal.isFalse(due, NOT_CODED, "macVerdict()", x -> x.macVerdict());
    }
}
