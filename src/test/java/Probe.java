import java.util.function.Function;

/** What can be found out about an object, each by calls that may change it. */
enum Probe {
    LOOK(x -> Calls.picture(x)),
    END_THE_MESSAGE(x -> x.macFinish() + " " + Calls.picture(x)),
    FEED_ONE_BYTE_MORE(x -> x.macUpdate(77) + " " + x.macFinish() + " " + Calls.tag(x)),
    FEED_A_BLOCK_MORE(x -> x.macFill(16, 5, 9) + " " + x.macFinish() + " " + Calls.tag(x)),
    COMPARE(x -> compared(x)),
    END_AND_COMPARE(x -> x.macFinish() + " " + compared(x)),
    BEGIN_A_MESSAGE(x -> x.macStart() + " " + x.macUpdate(1) + " " + x.macFinish() + " " + compared(x)),
    MAKE_THE_KEY(x -> x.expand() + " " + Calls.picture(x) + " " + x.encryptBlock() + " " + Calls.block(x)),
    GO_FORTH(x -> x.encryptBlock() + " " + Calls.block(x)),
    GO_BACK(x -> x.decryptBlock() + " " + Calls.block(x)),
    CHAIN_FORTH(x -> x.chain(false) + " " + Calls.block(x)),
    CHAIN_BACK(x -> x.chain(true) + " " + Calls.block(x)),
    MAKE_THE_KEY_AND_CHAIN(x -> x.expand() + " " + x.chain(true) + " " + Calls.block(x)),
    INIT(x -> afterInit(x));

    private final Function<BlockCode, String> calls;

    Probe(Function<BlockCode, String> calls) {
        this.calls = calls;
    }

    String of(BlockCode x) {
        return calls.apply(x);
    }

    /** The verdict before, between and after rightful comparisons, so that those that count already show. */
    private static String compared(BlockCode x) {
        StringBuilder text = new StringBuilder();
        for (int i = 15; i >= 0; i--) {
            text.append(x.macVerdict()).append(x.macCheck(i, x.tagByte(i)));
        }
        return text.append(x.macVerdict()).append(Calls.tag(x)).toString();
    }

    /** For a new object this is the one way to see its block and the one before. */
    private static String afterInit(BlockCode x) {
        x.init();
        return Calls.picture(x) + " " + x.expand() + " " + x.chain(true) + " " + Calls.picture(x);
    }
}
