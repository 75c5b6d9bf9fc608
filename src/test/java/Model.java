import java.io.ByteArrayOutputStream;
import java.util.HashSet;
import java.util.Set;

/** The document's words as plainly as the Java library lets them be said; answers are 1 for true, 0 for false. */
final class Model {
    private boolean ready = false;
    private byte[] key = new byte[16];
    private Oracle made = null;
    private ByteArrayOutputStream message = null;
    private byte[] code = null;
    private final Set<Integer> compared = new HashSet<>();
    private boolean differed = false;
    private byte[] block = new byte[16];
    private byte[] before = new byte[16];

    private static boolean isPlace(int i) {
        return 0 <= i && i <= 15;
    }

    private static boolean isByte(int b) {
        return 0 <= b && b <= 255;
    }

    private void noMessage() {
        message = null;
        code = null;
    }

    void init() {
        ready = true;
        key = new byte[16];
        made = null;
        noMessage();
    }

    int setKeyByte(int i, int b) {
        if (!ready || !isPlace(i) || !isByte(b)) {
            return 0;
        }
        key[i] = (byte) b;
        made = null;
        noMessage();
        return 1;
    }

    int expand() {
        if (!ready) {
            return 0;
        }
        made = new Oracle(key);
        return 1;
    }

    int macStart() {
        if (made == null) {
            return 0;
        }
        noMessage();
        message = new ByteArrayOutputStream();
        return 1;
    }

    int macUpdate(int b) {
        if (message == null || !isByte(b)) {
            return 0;
        }
        message.write(b);
        return 1;
    }

    int macFill(int n, int v, int step) {
        if (message == null || n < 0 || n > 10000) {
            return 0;
        }
        for (long k = 0; k < n; k++) {
            message.write((int) Math.floorMod(v + k * step, 256L));
        }
        return 1;
    }

    int macFinish() {
        if (message == null) {
            return 0;
        }
        code = made.code(message.toByteArray());
        message = null;
        compared.clear();
        differed = false;
        return 1;
    }

    int tagByte(int i) {
        return code != null && isPlace(i) ? code[i] & 255 : -1;
    }

    int macCheck(int i, int b) {
        if (code == null || !isPlace(i)) {
            return 0;
        }
        compared.add(i);
        differed |= tagByte(i) != b;
        return 1;
    }

    int macVerdict() {
        return code != null && compared.size() == 16 && !differed ? 1 : 0;
    }

    int setBlockByte(int i, int b) {
        if (!ready || !isPlace(i) || !isByte(b)) {
            return 0;
        }
        block[i] = (byte) b;
        return 1;
    }

    /** encryptBlock and decryptBlock. */
    int way(boolean back) {
        if (made == null) {
            return 0;
        }
        block = back ? made.back(block) : made.forth(block);
        return 1;
    }

    int chain(boolean back) {
        if (made == null) {
            return 0;
        }
        byte[] was = block;
        block = back ? Oracle.xored(made.back(block), before) : made.forth(Oracle.xored(block, before));
        before = (back ? was : block).clone();
        return 1;
    }

    int unchain() {
        if (!ready) {
            return 0;
        }
        before = new byte[16];
        return 1;
    }

    int blockByte(int i) {
        return ready && isPlace(i) ? block[i] & 255 : -1;
    }

    int half(int which, int i) {
        boolean there = made != null && (which == 0 || which == 1) && isPlace(i);
        return there ? made.half(which)[i] & 255 : -1;
    }
}
