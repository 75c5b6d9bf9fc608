import java.util.HexFormat;
import java.util.List;

/** The boundary cases of promises 3, 4 and 18, each under the sentence that names it. */
public final class KeyEdgesTest {
    private static final List<State> NEW = State.that(s -> !s.isReady());
    private static final List<State> READY = State.that(s -> s.isReady());
    private static final List<State> MADE = State.that(s -> s.hasKeyMade());
    private static final List<State> NOT_MADE = State.that(s -> !s.hasKeyMade());
    private static final Due due = new Due();

    public static void main(String[] args) {
        due.each(
            KeyEdgesTest::setKeyByteUnmakesTheKey,
            KeyEdgesTest::setKeyByteDropsTheMessage,
            KeyEdgesTest::setKeyByteAtItsFirstAndLastPlace,
            KeyEdgesTest::setKeyByteOfNoPlace,
            KeyEdgesTest::setKeyByteOfTheLeastAndTheGreatestByte,
            KeyEdgesTest::setKeyByteOfNoByte,
            KeyEdgesTest::setKeyByteWantsItReady,
            KeyEdgesTest::expandMakesAnyKey,
            KeyEdgesTest::expandChangesNothingElse,
            KeyEdgesTest::expandWantsItReady,
            KeyEdgesTest::halfAtItsFirstAndLastByte,
            KeyEdgesTest::halfWantsAKeyThatIsMade,
            KeyEdgesTest::noneSuchHalf,
            KeyEdgesTest::noneSuchByte);
        due.close();
    }

    /** The byte that it has already is put: that unmakes the key too. */
    private static void setKeyByteUnmakesTheKey() {
        due.promise(3, "it is not made then");
        for (State state : MADE) {
            BlockCode x = state.object();
            due.yes("setKeyByte(0, 0x2b) in " + state, x.setKeyByte(0, 0x2b));
            due.no("macStart() after it in " + state, x.macStart());
            due.no("encryptBlock() after it in " + state, x.encryptBlock());
            due.no("decryptBlock() after it in " + state, x.decryptBlock());
            due.no("chain(false) after it in " + state, x.chain(false));
            due.no("chain(true) after it in " + state, x.chain(true));
            due.same("half(0, 0) after it in " + state, x.half(0, 0), -1);
            due.same("half(1, 15) after it in " + state, x.half(1, 15), -1);
        }
    }

    private static void setKeyByteDropsTheMessage() {
        due.promise(3, "and there is no message");
        for (State state : READY) {
            for (boolean madeAgain : new boolean[] {false, true}) {
                BlockCode x = state.object();
                x.setKeyByte(0, 0x2b);
                String at = " after setKeyByte" + (madeAgain ? " and expand" : "") + " in " + state;
                if (madeAgain) {
                    x.expand();
                }
                due.no("macUpdate(0)" + at, x.macUpdate(0));
                due.no("macFill(0, 0, 0)" + at, x.macFill(0, 0, 0));
                due.no("macFinish()" + at, x.macFinish());
                due.same("tag" + at, Calls.tag(x), Calls.none());
                due.no("macCheck(0, 0)" + at, x.macCheck(0, 0));
                due.no("macVerdict()" + at, x.macVerdict());
            }
        }
    }

    /** The half keys of a key of zeros but for one byte show which byte was put, and what it is. */
    private static void puts(int i, int b) {
        BlockCode x = Calls.ready();
        String key = "00".repeat(i) + HexFormat.of().toHexDigits((byte) b) + "00".repeat(15 - i);
        due.yes("setKeyByte(" + i + ", " + b + ")", x.setKeyByte(i, b));
        x.expand();
        due.same("first half key of " + key, Calls.half(x, 0), Terms.half(key, 0));
        due.same("second half key of " + key, Calls.half(x, 1), Terms.half(key, 1));
    }

    private static void setKeyByteAtItsFirstAndLastPlace() {
        due.promise(3, "Wants i from 0 to 15: the first and the last");
        puts(0, 1);
        puts(15, 1);
    }

    private static void setKeyByteOfNoPlace() {
        due.promise(3, "Wants i from 0 to 15: too small, too large");
        for (int i : new int[] {-1, 16, Integer.MIN_VALUE, Integer.MAX_VALUE}) {
            Refusal.isFalse(due, READY, "setKeyByte(" + i + ", 1)", x -> x.setKeyByte(i, 1));
        }
    }

    private static void setKeyByteOfTheLeastAndTheGreatestByte() {
        due.promise(3, "Wants b a byte: the least and the greatest");
        for (int i = 0; i < 16; i++) {
            puts(i, 0);
            puts(i, 255);
        }
    }

    private static void setKeyByteOfNoByte() {
        due.promise(3, "Wants b a byte: too small, too large");
        for (int b : new int[] {-1, 256, 0x2b - 256, 0x2b + 256, Integer.MIN_VALUE, Integer.MAX_VALUE}) {
            Refusal.isFalse(due, READY, "setKeyByte(0, " + b + ")", x -> x.setKeyByte(0, b));
            Refusal.isFalse(due, READY, "setKeyByte(16, " + b + ")", x -> x.setKeyByte(16, b));
        }
    }

    private static void setKeyByteWantsItReady() {
        due.promise(3, "refused when it is not ready");
        for (int i = 0; i < 16; i++) {
            int place = i;
            Refusal.isFalse(due, NEW, "setKeyByte(" + i + ", 255)", x -> x.setKeyByte(place, 255));
        }
    }

    private static void expandMakesAnyKey() {
        due.promise(4, "The key is MADE (its words, its half keys)");
        for (State state : READY) {
            BlockCode x = state.object();
            Calls.putKey(x, Calls.KEY);
            due.yes("expand() in " + state, x.expand());
            isMade(x, " after expand in " + state);
            due.yes("expand() again in " + state, x.expand());
            isMade(x, " after expand again in " + state);
        }
    }

    private static void isMade(BlockCode x, String at) {
        due.same("first half key" + at, Calls.half(x, 0), Terms.half(Calls.KEY, 0));
        due.same("second half key" + at, Calls.half(x, 1), Terms.half(Calls.KEY, 1));
        Calls.putBlock(x, Calls.ZEROS);
        due.yes("encryptBlock()" + at, x.encryptBlock());
        due.same("zeros forth" + at, Calls.block(x), Terms.forth(Calls.KEY, Calls.ZEROS));
    }

    /** A key that is made is made once more: a message, its code and its comparisons go on as if it were not. */
    private static void expandChangesNothingElse() {
        due.promise(4, "The key is MADE, and nothing else changes");
        for (State state : MADE) {
            due.yes("expand() in " + state, state.object().expand());
            Refusal.changesNothing(due, state, "expand()", x -> x.expand());
        }
    }

    private static void expandWantsItReady() {
        due.promise(4, "refused when it is not ready");
        Refusal.isFalse(due, NEW, "expand()", x -> x.expand());
    }

    private static void halfAtItsFirstAndLastByte() {
        due.promise(18, "Byte i of the first (which = 0), the second half key (1)");
        for (State state : MADE) {
            BlockCode x = state.object();
            due.same("half(0, 0) in " + state, x.half(0, 0), 0xfb);
            due.same("half(0, 15) in " + state, x.half(0, 15), 0xde);
            due.same("half(1, 0) in " + state, x.half(1, 0), 0xf7);
            due.same("half(1, 15) in " + state, x.half(1, 15), 0x3b);
        }
    }

    private static void halfWantsAKeyThatIsMade() {
        due.promise(18, "-1 when no key is made");
        for (int which = 0; which < 2; which++) {
            for (int i : new int[] {0, 7, 15}) {
                int one = which;
                Refusal.isMinusOne(due, NOT_MADE, "half(" + which + ", " + i + ")", x -> x.half(one, i));
            }
        }
    }

    private static void noneSuchHalf() {
        due.promise(18, "or there is none such: which is neither 0 nor 1");
        for (int which : new int[] {-1, 2, Integer.MIN_VALUE, Integer.MAX_VALUE}) {
            Refusal.isMinusOne(due, MADE, "half(" + which + ", 0)", x -> x.half(which, 0));
            Refusal.isMinusOne(due, MADE, "half(" + which + ", 15)", x -> x.half(which, 15));
        }
    }

    private static void noneSuchByte() {
        due.promise(18, "or there is none such: i is not from 0 to 15");
        for (int i : new int[] {-1, 16, Integer.MIN_VALUE, Integer.MAX_VALUE}) {
            Refusal.isMinusOne(due, MADE, "half(0, " + i + ")", x -> x.half(0, i));
            Refusal.isMinusOne(due, MADE, "half(1, " + i + ")", x -> x.half(1, i));
            Refusal.isMinusOne(due, MADE, "half(2, " + i + ")", x -> x.half(2, i));
        }
    }
}
