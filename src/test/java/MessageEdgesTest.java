import java.util.HexFormat;
import java.util.List;

/** The boundary cases of promises 5 to 9, each under the sentence that names it. */
public final class MessageEdgesTest {
    private static final List<State> MADE = State.that(s -> s.hasKeyMade());
    private static final List<State> NOT_MADE = State.that(s -> !s.hasKeyMade());
    private static final List<State> OPEN = State.that(s -> s.hasOpenMessage());
    private static final List<State> NOT_OPEN = State.that(s -> !s.hasOpenMessage());
    private static final List<State> CODED = State.that(s -> s.hasCode());
    private static final List<State> NOT_CODED = State.that(s -> !s.hasCode());
    private static final int LEAST = Integer.MIN_VALUE;
    private static final int GREATEST = Integer.MAX_VALUE;
    private static final Due due = new Due();

    public static void main(String[] args) {
        due.each(
            MessageEdgesTest::startMakesAnotherMessageNone,
            MessageEdgesTest::startWantsAKeyThatIsMade,
            MessageEdgesTest::updateWantsAMessage,
            MessageEdgesTest::updateOfTheLeastAndTheGreatestByte,
            MessageEdgesTest::updateOfNoByte,
            MessageEdgesTest::updateAcrossTheEndOfABlock,
            MessageEdgesTest::fillPastTheGreatestByte,
            MessageEdgesTest::fillPastTheGreatestNumber,
            MessageEdgesTest::fillOfLongSums,
            MessageEdgesTest::fillAcrossTheEndOfABlock,
            MessageEdgesTest::fillOfNone,
            MessageEdgesTest::fillOfTheMost,
            MessageEdgesTest::fillOfTooFewOrTooMany,
            MessageEdgesTest::fillWantsAMessage,
            MessageEdgesTest::finishOfEveryMessage,
            MessageEdgesTest::finishForgetsComparisons,
            MessageEdgesTest::finishWantsAMessage,
            MessageEdgesTest::tagByteAtItsFirstAndLastByte,
            MessageEdgesTest::tagByteWantsACode,
            MessageEdgesTest::tagByteOfNoPlace);
        due.close();
    }

    private static BlockCode begun() {
        BlockCode x = Calls.made(Calls.KEY);
        x.macStart();
        return x;
    }

    private static String ended(BlockCode x) {
        x.macFinish();
        return Calls.tag(x);
    }

    /** The message of a state is not a part of the new one, and neither are its code and its comparisons. */
    private static void startMakesAnotherMessageNone() {
        due.promise(5, "A message begins (another one is none any more)");
        for (State state : MADE) {
            BlockCode x = state.object();
            due.yes("macStart() in " + state, x.macStart());
            due.same("tag after macStart in " + state, Calls.tag(x), Calls.none());
            due.no("macCheck(0, 0) after macStart in " + state, x.macCheck(0, 0));
            due.no("macVerdict() after macStart in " + state, x.macVerdict());
            due.same("code of nothing in " + state, ended(x), Terms.code(Calls.KEY, ""));
            due.no("macVerdict() of it in " + state, x.macVerdict());
        }
    }

    private static void startWantsAKeyThatIsMade() {
        due.promise(5, "Wants a key that is made");
        Refusal.isFalse(due, NOT_MADE, "macStart()", x -> x.macStart());
    }

    private static void updateWantsAMessage() {
        due.promise(6, "Wants a message that has begun and has not ended");
        Refusal.isFalse(due, NOT_OPEN, "macUpdate(0)", x -> x.macUpdate(0));
        Refusal.isFalse(due, NOT_OPEN, "macUpdate(255)", x -> x.macUpdate(255));
    }

    private static void updateOfTheLeastAndTheGreatestByte() {
        due.promise(6, "Wants a byte: the least and the greatest");
        for (int b : new int[] {0, 255}) {
            String hex = HexFormat.of().toHexDigits((byte) b);
            BlockCode x = begun();
            for (int length = 1; length <= 17; length++) {
                due.yes("macUpdate(" + b + ")", x.macUpdate(b));
            }
            due.same("code of 17 times " + b, ended(x), Terms.code(Calls.KEY, hex.repeat(17)));
        }
    }

    private static void updateOfNoByte() {
        due.promise(6, "Wants a byte: too small, too large");
        for (int b : new int[] {-1, 256, -256, 257, LEAST, GREATEST}) {
            Refusal.isFalse(due, OPEN, "macUpdate(" + b + ")", x -> x.macUpdate(b));
        }
    }

    private static void updateAcrossTheEndOfABlock() {
        due.promise(6, "A byte of the message: the last of a block, and the first of the next");
        StringBuilder message = new StringBuilder();
        for (int length = 1; length <= 34; length++) {
            message.append(HexFormat.of().toHexDigits((byte) (7 * length)));
            BlockCode x = begun();
            Calls.feed(x, message.toString());
            due.same("code of " + length + " bytes", ended(x), Terms.code(Calls.KEY, message.toString()));
        }
    }

    /** The lowest eight bits of the sums, added up where they can't wrap around. */
    private static String sums(int n, int v, int step) {
        StringBuilder hex = new StringBuilder();
        for (long k = 0; k < n; k++) {
            hex.append(HexFormat.of().toHexDigits((byte) ((v + k * step) & 255)));
        }
        return hex.toString();
    }

    private static void fills(int n, int v, int step) {
        String call = "macFill(" + n + ", " + v + ", " + step + ")";
        String message = sums(n, v, step);
        BlockCode x = begun();
        due.yes(call, x.macFill(n, v, step));
        due.same("code of " + call, ended(x), Terms.code(Calls.KEY, message));
    }

    /** The same bytes by macUpdate, of which an object can have some 400. */
    private static void fillsAsUpdates(int n, int v, int step) {
        fills(n, v, step);
        BlockCode x = begun();
        Calls.feed(x, sums(n, v, step));
        BlockCode y = begun();
        y.macFill(n, v, step);
        due.same("macFill(" + n + ", " + v + ", " + step + ") as macUpdate", ended(y), ended(x));
    }

    private static void fillPastTheGreatestByte() {
        due.promise(7, "each the lowest eight bits of v, v + step, v + 2 step, ..: past 255 and below 0");
        fillsAsUpdates(3, 254, 1);
        fillsAsUpdates(3, 1, -1);
        fillsAsUpdates(300, 255, 1);
        fillsAsUpdates(300, 0, -1);
        fillsAsUpdates(300, 0, 255);
        fillsAsUpdates(20, 0, 256);
        fillsAsUpdates(20, 255, 0);
        fillsAsUpdates(20, 256, 257);
        fillsAsUpdates(20, -1, 0);
        fillsAsUpdates(20, -256, -257);
    }

    private static void fillPastTheGreatestNumber() {
        due.promise(7, "each the lowest eight bits of v, v + step, v + 2 step, ..: where the sums wrap around");
        fillsAsUpdates(3, GREATEST, 1);
        fillsAsUpdates(3, GREATEST - 1, 1);
        fillsAsUpdates(3, LEAST, -1);
        fillsAsUpdates(3, LEAST + 1, -1);
        int[] far = {LEAST, LEAST + 1, LEAST + 77, -1, 0, 1, GREATEST - 77, GREATEST - 1, GREATEST};
        for (int v : far) {
            for (int step : far) {
                fillsAsUpdates(21, v, step);
            }
        }
    }

    /** Here the sums stay numbers for thousands of steps, or wrap around thousands of times. */
    private static void fillOfLongSums() {
        due.promise(7, "each the lowest eight bits of v, v + step, v + 2 step, ..: to the last of 10000");
        fills(10000, 0, 214748);
        fills(10000, 0, 214749);
        fills(10000, GREATEST - 5000, 1);
        fills(10000, LEAST + 5000, -1);
        fills(10000, GREATEST, GREATEST);
        fills(10000, LEAST, LEAST + 3);
    }

    private static void fillAcrossTheEndOfABlock() {
        due.promise(7, "n bytes more .. as macUpdate: from and to each place of a block");
        for (int first = 0; first <= 17; first++) {
            for (int n = 0; n <= 34; n++) {
                BlockCode x = begun();
                x.macFill(first, 9, 5);
                due.yes("macFill(" + n + ", 40, 3) behind " + first, x.macFill(n, 40, 3));
                due.yes("macUpdate(6)", x.macUpdate(6));
                due.same("code of macFill(" + n + ", 40, 3) behind " + first, ended(x),
                    Terms.code(Calls.KEY, sums(first, 9, 5) + sums(n, 40, 3) + "06"));
            }
        }
    }

    private static void fillOfNone() {
        due.promise(7, "Wants n from 0 to 10000: none at all");
        for (State state : OPEN) {
            due.yes("macFill(0, 255, 1) in " + state, state.object().macFill(0, 255, 1));
            Refusal.changesNothing(due, state, "macFill(0, 255, 1)", x -> x.macFill(0, 255, 1));
        }
    }

    /** 10000 bytes are whole blocks, 9999 are not. */
    private static void fillOfTheMost() {
        due.promise(7, "Wants n from 0 to 10000: the most");
        fills(9999, 3, 5);
        fills(10000, 3, 5);
        BlockCode x = begun();
        due.yes("macFill(10000, 0, 1)", x.macFill(10000, 0, 1));
        due.yes("macFill(10000, 1, 1) more", x.macFill(10000, 1, 1));
        due.same("code of both", ended(x), Terms.code(Calls.KEY, sums(10000, 0, 1) + sums(10000, 1, 1)));
    }

    private static void fillOfTooFewOrTooMany() {
        due.promise(7, "Wants n from 0 to 10000: too small, too large");
        for (int n : new int[] {-1, 10001, -10000, LEAST, GREATEST}) {
            Refusal.isFalse(due, OPEN, "macFill(" + n + ", 1, 1)", x -> x.macFill(n, 1, 1));
        }
    }

    private static void fillWantsAMessage() {
        due.promise(7, "as macUpdate: refused without a message that has begun and has not ended");
        for (int n : new int[] {-1, 0, 1, 16, 10000, 10001}) {
            Refusal.isFalse(due, NOT_OPEN, "macFill(" + n + ", 1, 1)", x -> x.macFill(n, 1, 1));
        }
    }

    private static void finishOfEveryMessage() {
        due.promise(8, "The message has ended: its code is there");
        for (State state : OPEN) {
            BlockCode x = state.object();
            due.same("tag before the end in " + state, Calls.tag(x), Calls.none());
            due.yes("macFinish() in " + state, x.macFinish());
            due.no("a byte of the code is none in " + state, Calls.tag(x).contains("--"));
            due.no("macUpdate(0) behind the end in " + state, x.macUpdate(0));
        }
        due.same("code of nothing", ended(begun()), "bb1d6929e95937287fa37d129b756746");
        due.same("code in MESSAGE_OF_16", ended(State.MESSAGE_OF_16.object()),
            Terms.code(Calls.KEY, sums(16, 200, 7)));
        due.same("code in MESSAGE_OF_17", ended(State.MESSAGE_OF_17.object()),
            Terms.code(Calls.KEY, sums(17, 200, 7)));
    }

    /** The same message twice, so that what was compared of the first code would suit the second. */
    private static void finishForgetsComparisons() {
        due.promise(8, "nothing of it was compared");
        BlockCode x = begun();
        String code = ended(x);
        Calls.compareAll(x, code);
        due.yes("macVerdict() of the first", x.macVerdict());
        x.macStart();
        due.same("the second code", ended(x), code);
        due.no("macVerdict() of the second", x.macVerdict());
        for (int i = 0; i < 15; i++) {
            x.macCheck(i, Calls.byteOf(code, i));
        }
        due.no("macVerdict() after 15 bytes of the second", x.macVerdict());
        x.macCheck(15, Calls.byteOf(code, 15) ^ 1);
        x.macStart();
        ended(x);
        Calls.compareAll(x, code);
        due.yes("macVerdict() of the third, after another byte of the second", x.macVerdict());
    }

    private static void finishWantsAMessage() {
        due.promise(8, "Wants one that has begun and has not ended");
        Refusal.isFalse(due, NOT_OPEN, "macFinish()", x -> x.macFinish());
    }

    /** RFC 4493, the code of no bytes. */
    private static void tagByteAtItsFirstAndLastByte() {
        due.promise(9, "Byte i of the code: the first and the last");
        BlockCode x = State.ENDED_EMPTY.object();
        due.same("tagByte(0)", x.tagByte(0), 0xbb);
        due.same("tagByte(15)", x.tagByte(15), 0x46);
    }

    private static void tagByteWantsACode() {
        due.promise(9, "-1 without one");
        for (int i : new int[] {0, 7, 15}) {
            Refusal.isMinusOne(due, NOT_CODED, "tagByte(" + i + ")", x -> x.tagByte(i));
        }
    }

    private static void tagByteOfNoPlace() {
        due.promise(9, "-1 without .. such a byte");
        for (int i : new int[] {-1, 16, LEAST, GREATEST}) {
            Refusal.isMinusOne(due, CODED, "tagByte(" + i + ")", x -> x.tagByte(i));
            Refusal.isMinusOne(due, NOT_CODED, "tagByte(" + i + ")", x -> x.tagByte(i));
        }
    }
}
