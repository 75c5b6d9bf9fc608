import java.util.List;

/** The boundary cases of promises 12 to 15 and 17, each under the sentence that names it. */
public final class BlockEdgesTest {
    private static final String ONES = "ff".repeat(16);
    private static final String SOME = "00112233445566778899aabbccddeeff";
    private static final List<State> NEW = State.that(s -> !s.isReady());
    private static final List<State> READY = State.that(s -> s.isReady());
    private static final List<State> MADE = State.that(s -> s.hasKeyMade());
    private static final List<State> NOT_MADE = State.that(s -> !s.hasKeyMade());
    private static final int[] NO_PLACES = {-1, 16, Integer.MIN_VALUE, Integer.MAX_VALUE};
    private static final Due due = new Due();

    public static void main(String[] args) {
        due.each(
            BlockEdgesTest::setBlockByteAtItsFirstAndLastPlace,
            BlockEdgesTest::setBlockByteOfNoPlace,
            BlockEdgesTest::setBlockByteOfTheLeastAndTheGreatestByte,
            BlockEdgesTest::setBlockByteOfNoByte,
            BlockEdgesTest::setBlockByteWantsItReady,
            BlockEdgesTest::forthOfTheLeastAndTheGreatestBlock,
            BlockEdgesTest::forthWantsAKeyThatIsMade,
            BlockEdgesTest::backOfTheLeastAndTheGreatestBlock,
            BlockEdgesTest::backWantsAKeyThatIsMade,
            BlockEdgesTest::theFirstOfAChainForth,
            BlockEdgesTest::theFirstOfAChainBack,
            BlockEdgesTest::chainForthOfTheOneBeforeItself,
            BlockEdgesTest::chainBackKeepsTheBlockAsItWas,
            BlockEdgesTest::chainWantsAKeyThatIsMade,
            BlockEdgesTest::blockByteAtItsFirstAndLastPlace,
            BlockEdgesTest::blockByteOfNoPlace,
            BlockEdgesTest::blockByteWantsItReady);
        due.close();
    }

    /** A key need not be made, and no other byte changes. */
    private static void puts(State state, int i, int b) {
        BlockCode x = state.object();
        String was = Calls.block(x);
        due.yes("setBlockByte(" + i + ", " + b + ") in " + state, x.setBlockByte(i, b));
        due.same("block after setBlockByte(" + i + ", " + b + ") in " + state, Calls.block(x),
            was.substring(0, 2 * i) + String.format("%02x", b) + was.substring(2 * i + 2));
    }

    private static void setBlockByteAtItsFirstAndLastPlace() {
        due.promise(12, "Wants i from 0 to 15: the first and the last");
        for (State state : READY) {
            puts(state, 0, 1);
            puts(state, 15, 1);
        }
    }

    private static void setBlockByteOfNoPlace() {
        due.promise(12, "Wants i from 0 to 15: too small, too large");
        for (int i : NO_PLACES) {
            Refusal.isFalse(due, READY, "setBlockByte(" + i + ", 1)", x -> x.setBlockByte(i, 1));
        }
    }

    private static void setBlockByteOfTheLeastAndTheGreatestByte() {
        due.promise(12, "Wants b a byte: the least and the greatest");
        for (State state : READY) {
            for (int i = 0; i < 16; i++) {
                puts(state, i, 0);
                puts(state, i, 255);
            }
        }
    }

    private static void setBlockByteOfNoByte() {
        due.promise(12, "Wants b a byte: too small, too large");
        for (int b : new int[] {-1, 256, -256, 257, Integer.MIN_VALUE, Integer.MAX_VALUE}) {
            Refusal.isFalse(due, READY, "setBlockByte(0, " + b + ")", x -> x.setBlockByte(0, b));
            Refusal.isFalse(due, READY, "setBlockByte(15, " + b + ")", x -> x.setBlockByte(15, b));
            Refusal.isFalse(due, READY, "setBlockByte(16, " + b + ")", x -> x.setBlockByte(16, b));
        }
    }

    private static void setBlockByteWantsItReady() {
        due.promise(12, "refused when it is not ready");
        for (int i = 0; i < 16; i++) {
            int place = i;
            Refusal.isFalse(due, NEW, "setBlockByte(" + i + ", 255)", x -> x.setBlockByte(place, 255));
        }
    }

    private static void forthOfTheLeastAndTheGreatestBlock() {
        due.promise(13, "The block goes forth: of all bytes 0, of all bytes 255");
        for (String block : new String[] {Calls.ZEROS, ONES}) {
            for (State state : MADE) {
                BlockCode x = state.object();
                Calls.putBlock(x, block);
                due.yes("encryptBlock() in " + state, x.encryptBlock());
                due.same(block + " forth in " + state, Calls.block(x), Terms.forth(Calls.KEY, block));
            }
        }
    }

    private static void forthWantsAKeyThatIsMade() {
        due.promise(13, "Wants a key that is made");
        Refusal.isFalse(due, NOT_MADE, "encryptBlock()", x -> x.encryptBlock());
    }

    private static void backOfTheLeastAndTheGreatestBlock() {
        due.promise(14, "The block goes back: of all bytes 0, of all bytes 255");
        for (String block : new String[] {Calls.ZEROS, ONES}) {
            for (State state : MADE) {
                BlockCode x = state.object();
                Calls.putBlock(x, block);
                due.yes("decryptBlock() in " + state, x.decryptBlock());
                due.same(block + " back in " + state + ", forth again", Terms.forth(Calls.KEY, Calls.block(x)), block);
            }
        }
    }

    private static void backWantsAKeyThatIsMade() {
        due.promise(14, "Wants a key that is made");
        Refusal.isFalse(due, NOT_MADE, "decryptBlock()", x -> x.decryptBlock());
    }

    private static BlockCode with(String block) {
        BlockCode x = Calls.made(Calls.KEY);
        Calls.putBlock(x, block);
        return x;
    }

    /** The one before is zeros at first: the block goes as if it were alone. */
    private static void theFirstOfAChainForth() {
        due.promise(15, "forth: the block is xored with the one before: zeros");
        for (String block : new String[] {Calls.ZEROS, ONES, SOME}) {
            BlockCode x = with(block);
            due.yes("chain(false)", x.chain(false));
            due.same(block + " chained forth first", Calls.block(x), Terms.forth(Calls.KEY, block));
        }
    }

    private static void theFirstOfAChainBack() {
        due.promise(15, "Back: it goes back, and is xored with the one before: zeros");
        for (String block : new String[] {Calls.ZEROS, ONES, SOME}) {
            BlockCode x = with(Terms.forth(Calls.KEY, block));
            due.yes("chain(true)", x.chain(true));
            due.same(block + " forth, chained back first", Calls.block(x), block);
        }
    }

    /** After it went forth the block is the one before: chained again as it is, it is xored with itself. */
    private static void chainForthOfTheOneBeforeItself() {
        due.promise(15, "goes forth, and that is the one before then");
        BlockCode x = with(SOME);
        x.chain(false);
        for (int k = 0; k < 3; k++) {
            due.yes("chain(false) again", x.chain(false));
            due.same("what was xored with itself, forth", Calls.block(x), Terms.forth(Calls.KEY, Calls.ZEROS));
        }
        x.setBlockByte(0, x.blockByte(0) ^ 255);
        x.chain(false);
        due.same("what was another by its first byte, forth", Calls.block(x),
            Terms.forth(Calls.KEY, "ff" + Calls.ZEROS.substring(2)));
    }

    /** A block put after that shows what the one before is: not the block as it has become. */
    private static void chainBackKeepsTheBlockAsItWas() {
        due.promise(15, "as it was it is the one before then");
        for (String block : new String[] {Calls.ZEROS, ONES, SOME}) {
            BlockCode x = with(block);
            x.chain(true);
            Calls.putBlock(x, block);
            x.chain(false);
            due.same(block + " xored with itself, forth", Calls.block(x), Terms.forth(Calls.KEY, Calls.ZEROS));
        }
        BlockCode y = with(Terms.forth(Calls.KEY, SOME));
        y.chain(true);
        due.same("the first back", Calls.block(y), SOME);
        Calls.putBlock(y, Terms.forth(Calls.KEY, Terms.forth(Calls.KEY, SOME)));
        y.chain(true);
        due.same("the second back, xored with what the first was", Calls.block(y), Calls.ZEROS);
    }

    private static void chainWantsAKeyThatIsMade() {
        due.promise(15, "Wants a key that is made");
        Refusal.isFalse(due, NOT_MADE, "chain(false)", x -> x.chain(false));
        Refusal.isFalse(due, NOT_MADE, "chain(true)", x -> x.chain(true));
    }

    private static void blockByteAtItsFirstAndLastPlace() {
        due.promise(17, "Byte i of the block: the first and the last");
        for (State state : READY) {
            BlockCode x = state.object();
            Calls.putBlock(x, Calls.KEY);
            due.same("blockByte(0) in " + state, x.blockByte(0), 0x2b);
            due.same("blockByte(15) in " + state, x.blockByte(15), 0x3c);
        }
    }

    private static void blockByteOfNoPlace() {
        due.promise(17, "-1 when there is none such");
        for (int i : NO_PLACES) {
            Refusal.isMinusOne(due, READY, "blockByte(" + i + ")", x -> x.blockByte(i));
        }
    }

    private static void blockByteWantsItReady() {
        due.promise(17, "or it is not ready");
        for (int i : new int[] {-1, 0, 7, 15, 16}) {
            Refusal.isMinusOne(due, NEW, "blockByte(" + i + ")", x -> x.blockByte(i));
        }
    }
}
