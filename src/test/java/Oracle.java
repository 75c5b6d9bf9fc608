import java.math.BigInteger;
import java.security.GeneralSecurityException;
import java.util.Arrays;
import java.util.HexFormat;
import javax.crypto.Cipher;
import javax.crypto.spec.SecretKeySpec;

/** The document's cipher and code by way of the Java library, which the class itself may not use. */
final class Oracle {
    private final Cipher forth;
    private final Cipher back;

    Oracle(byte[] key) {
        forth = cipher(Cipher.ENCRYPT_MODE, key);
        back = cipher(Cipher.DECRYPT_MODE, key);
    }

    Oracle(String key) {
        this(HexFormat.of().parseHex(key));
    }

    private static Cipher cipher(int mode, byte[] key) {
        try {
            Cipher made = Cipher.getInstance("AES/ECB/NoPadding");
            made.init(mode, new SecretKeySpec(key, "AES"));
            return made;
        } catch (GeneralSecurityException e) {
            throw new IllegalStateException(e);
        }
    }

    private static byte[] through(Cipher way, byte[] block) {
        try {
            return way.doFinal(block);
        } catch (GeneralSecurityException e) {
            throw new IllegalStateException(e);
        }
    }

    byte[] forth(byte[] block) {
        return through(forth, block);
    }

    byte[] back(byte[] block) {
        return through(back, block);
    }

    String forth(String block) {
        return HexFormat.of().formatHex(forth(HexFormat.of().parseHex(block)));
    }

    String back(String block) {
        return HexFormat.of().formatHex(back(HexFormat.of().parseHex(block)));
    }

    /** Half key 0 or 1. */
    byte[] half(int which) {
        byte[] first = doubled(forth(new byte[16]));
        return which == 0 ? first : doubled(first);
    }

    private static byte[] doubled(byte[] block) {
        BigInteger number = new BigInteger(1, block).shiftLeft(1);
        if (number.testBit(128)) {
            number = number.clearBit(128).xor(BigInteger.valueOf(135));
        }
        byte[] all = number.toByteArray();
        byte[] result = new byte[16];
        for (int i = 0; i < 16 && i < all.length; i++) {
            result[15 - i] = all[all.length - 1 - i];
        }
        return result;
    }

    /** The code of a whole message, parted only when all of it is there. */
    byte[] code(byte[] message) {
        int blocks = Math.max(1, (message.length + 15) / 16);
        boolean whole = message.length == 16 * blocks;
        byte[] padded = Arrays.copyOf(message, 16 * blocks);
        if (!whole) {
            padded[message.length] = (byte) 128;
        }
        byte[] sum = new byte[16];
        for (int k = 0; k < blocks; k++) {
            sum = xored(sum, Arrays.copyOfRange(padded, 16 * k, 16 * k + 16));
            if (k == blocks - 1) {
                sum = xored(sum, half(whole ? 0 : 1));
            }
            sum = forth(sum);
        }
        return sum;
    }

    String code(String message) {
        return HexFormat.of().formatHex(code(HexFormat.of().parseHex(message)));
    }

    static byte[] xored(byte[] a, byte[] b) {
        byte[] result = new byte[16];
        for (int i = 0; i < 16; i++) {
            result[i] = (byte) (a[i] ^ b[i]);
        }
        return result;
    }
}
