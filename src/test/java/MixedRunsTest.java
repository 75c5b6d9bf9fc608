import java.util.Random;

/** All promises at once: long runs of calls in any order, each answer against a plain model of the document. */
public final class MixedRunsTest {
    private static final int RUNS = 2000;
    /** An object is used for no more calls than these; one step makes at most sixteen. */
    private static final int CALLS = 512;
    private static final int CALLS_OF_A_STEP = 16;
    private static final int[] ODD = {
        -1, 16, 17, 255, 256, 257, 10000, 10001, Integer.MIN_VALUE, Integer.MAX_VALUE};

    private static final Due due = new Due();

    public static void main(String[] args) {
        due.allPromises("in long runs of calls");
        for (int run = 0; run < RUNS; run++) {
            run(run, new Random(run));
        }
        due.close();
    }

    private static void run(int run, Random random) {
        BlockCode x = new BlockCode();
        Model model = new Model();
        int calls = 0;
        while (calls + CALLS_OF_A_STEP <= CALLS) {
            calls += step("run " + run + ", call " + calls + ": ", x, model, random);
        }
    }

    private static int place(Random random) {
        return random.nextInt(20) == 0 ? ODD[random.nextInt(ODD.length)] : random.nextInt(16);
    }

    private static int aByte(Random random) {
        return random.nextInt(20) == 0 ? ODD[random.nextInt(ODD.length)] : random.nextInt(256);
    }

    private static int amount(Random random) {
        int kind = random.nextInt(40);
        if (kind == 0) {
            return ODD[random.nextInt(ODD.length)];
        }
        return kind < 3 ? random.nextInt(500) : random.nextInt(36);
    }

    /** One call, or a comparison of all bytes of a code; how many calls it was. */
    private static int step(String at, BlockCode x, Model model, Random random) {
        int i = place(random);
        int b = aByte(random);
        // What changes most (init, another key) is rare, so that messages and chains grow long.
        int kind = random.nextInt(100);
        if (kind < 1) {
            x.init();
            model.init();
        } else if (kind < 3) {
            due.same(at + "setKeyByte(" + i + ", " + b + ")", x.setKeyByte(i, b) ? 1 : 0, model.setKeyByte(i, b));
        } else if (kind < 12) {
            due.same(at + "expand()", x.expand() ? 1 : 0, model.expand());
        } else if (kind < 40) {
            messageStep(at, x, model, random);
        } else if (kind < 56) {
            codeStep(at, x, model, random);
        } else if (kind < 60) {
            compareAll(at, x, model);
            return CALLS_OF_A_STEP;
        } else {
            blockStep(at, x, model, random);
        }
        return 1;
    }

    private static void messageStep(String at, BlockCode x, Model model, Random random) {
        int b = aByte(random);
        switch (random.nextInt(8)) {
            case 0 -> due.same(at + "macStart()", x.macStart() ? 1 : 0, model.macStart());
            case 1, 2 -> due.same(at + "macFinish()", x.macFinish() ? 1 : 0, model.macFinish());
            case 3, 4 -> {
                int n = amount(random);
                int v = random.nextInt();
                int step = random.nextInt();
                due.same(at + "macFill(" + n + ", " + v + ", " + step + ")", x.macFill(n, v, step) ? 1 : 0,
                    model.macFill(n, v, step));
            }
            default -> due.same(at + "macUpdate(" + b + ")", x.macUpdate(b) ? 1 : 0, model.macUpdate(b));
        }
    }

    private static void codeStep(String at, BlockCode x, Model model, Random random) {
        int i = place(random);
        switch (random.nextInt(4)) {
            case 0 -> due.same(at + "macVerdict()", x.macVerdict() ? 1 : 0, model.macVerdict());
            case 1 -> due.same(at + "tagByte(" + i + ")", x.tagByte(i), model.tagByte(i));
            case 2 -> {
                int b = random.nextInt(8) == 0 ? aByte(random) : model.tagByte(i);
                due.same(at + "macCheck(" + i + ", " + b + ")", x.macCheck(i, b) ? 1 : 0, model.macCheck(i, b));
            }
            default -> {
                int which = random.nextInt(4) - 1;
                due.same(at + "half(" + which + ", " + i + ")", x.half(which, i), model.half(which, i));
            }
        }
    }

    private static void compareAll(String at, BlockCode x, Model model) {
        for (int i = 0; i < 16; i++) {
            int b = model.tagByte(i);
            due.same(at + "macCheck(" + i + ", " + b + ")", x.macCheck(i, b) ? 1 : 0, model.macCheck(i, b));
        }
    }

    private static void blockStep(String at, BlockCode x, Model model, Random random) {
        int i = place(random);
        int b = aByte(random);
        boolean back = random.nextBoolean();
        switch (random.nextInt(9)) {
            case 0 -> due.same(at + "encryptBlock()", x.encryptBlock() ? 1 : 0, model.way(false));
            case 1 -> due.same(at + "decryptBlock()", x.decryptBlock() ? 1 : 0, model.way(true));
            case 2, 3 -> due.same(at + "chain(" + back + ")", x.chain(back) ? 1 : 0, model.chain(back));
            case 4 -> due.same(at + "unchain()", x.unchain() ? 1 : 0, model.unchain());
            case 5 -> due.same(at + "setBlockByte(" + i + ", " + b + ")", x.setBlockByte(i, b) ? 1 : 0,
                model.setBlockByte(i, b));
            default -> due.same(at + "blockByte(" + i + ")", x.blockByte(i), model.blockByte(i));
        }
    }
}
