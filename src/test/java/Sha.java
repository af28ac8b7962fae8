import java.io.ByteArrayOutputStream;
import java.nio.ByteBuffer;
import java.security.MessageDigest;
import java.security.NoSuchAlgorithmException;

/** The document's H and the ids made with it, over the Java library's SHA-256. */
final class Sha {
    private Sha() { }

    static byte[] of(byte[]... rows) {
        try {
            return MessageDigest.getInstance("SHA-256").digest(together(rows));
        } catch (NoSuchAlgorithmException e) {
            throw new IllegalStateException(e);
        }
    }

    static byte[] leafId(byte[] leaf) {
        return of(new byte[] {0}, leaf);
    }

    static byte[] pairId(byte[] first, byte[] second) {
        return of(new byte[] {1}, first, second);
    }

    /** The eight bytes from byte 8 k on, for a k of 0 .. 3. */
    static long part(byte[] id, int k) {
        return ByteBuffer.wrap(id).getLong(8 * k);
    }

    static byte[] together(byte[]... rows) {
        ByteArrayOutputStream all = new ByteArrayOutputStream();
        for (byte[] row : rows) {
            all.writeBytes(row);
        }
        return all.toByteArray();
    }
}
