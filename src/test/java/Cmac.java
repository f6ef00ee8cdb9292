import java.security.GeneralSecurityException;
import javax.crypto.Cipher;
import javax.crypto.spec.SecretKeySpec;

/** Codes as the document has them, by the library's cipher, of rows with fewer than 16 octets. */
final class Cmac {
    private Cmac() {
    }

    static int[] code(int key, int... row) {
        byte[] block = doubled(doubled(cipher(key, new byte[16])));
        for (int i = 0; i < row.length; i++) {
            block[i] ^= row[i];
        }
        block[row.length] ^= 128;
        byte[] code = cipher(key, block);
        int[] octets = new int[16];
        for (int i = 0; i < 16; i++) {
            octets[i] = code[i] & 255;
        }
        return octets;
    }

    private static byte[] cipher(int key, byte[] block) {
        byte[] octets = new byte[16];
        for (int i = 0; i < 16; i++) {
            octets[i] = (byte) (key + i);
        }
        try {
            Cipher aes = Cipher.getInstance("AES/ECB/NoPadding");
            aes.init(Cipher.ENCRYPT_MODE, new SecretKeySpec(octets, "AES"));
            return aes.doFinal(block);
        } catch (GeneralSecurityException e) {
            throw new IllegalStateException(e);
        }
    }

    private static byte[] doubled(byte[] block) {
        byte[] out = new byte[16];
        for (int i = 0; i < 16; i++) {
            out[i] = (byte) (block[i] << 1 | (i < 15 ? (block[i + 1] & 255) >> 7 : 0));
        }
        out[15] ^= block[0] < 0 ? 135 : 0;
        return out;
    }

    /** The eight octets of a frame with a key: three of signals, the counter, four of the code. */
    static int[] frame(int position, int key, long sent, int first, int second, int third) {
        int[] row = new int[12];
        row[0] = position;
        for (int i = 0; i < 8; i++) {
            row[1 + i] = (int) (sent >>> 56 - 8 * i) & 255;
        }
        row[9] = first;
        row[10] = second;
        row[11] = third;
        int[] code = code(key, row);
        return new int[] {first, second, third, (int) sent & 255, code[0], code[1], code[2], code[3]};
    }

    /** The question 39 2 with the right key for the seed that stands in an answer 103 1. */
    static int[] keyFor(CarHouse x) {
        int[] code = code(16, x.answer(2), x.answer(3), x.answer(4), x.answer(5));
        return new int[] {39, 2, code[0], code[1], code[2], code[3]};
    }
}
