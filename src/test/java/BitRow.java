import java.io.ByteArrayOutputStream;

/** A LOW ROW or a HIGH ROW of bits, written one by one. */
final class BitRow {
    private final boolean high;
    private final StringBuilder bits = new StringBuilder();

    private BitRow(boolean high) {
        this.high = high;
    }

    static BitRow low() {
        return new BitRow(false);
    }

    static BitRow high() {
        return new BitRow(true);
    }

    BitRow number(long v, int n) {
        for (int i = 0; i < n; i++) {
            bits.append(v >>> (high ? n - 1 - i : i) & 1);
        }
        return this;
    }

    /** Bits as they stand, such as a PREFIX CODE's. */
    BitRow code(String code) {
        bits.append(code);
        return this;
    }

    BitRow close() {
        while (bits.length() % 8 != 0) {
            bits.append('0');
        }
        return this;
    }

    int size() {
        return bits.length();
    }

    /** The number of the octet in which the last bit lies. */
    int place() {
        return (bits.length() - 1) / 8;
    }

    String text() {
        return bits.toString();
    }

    byte[] octets() {
        close();
        ByteArrayOutputStream out = new ByteArrayOutputStream();
        for (int i = 0; i < bits.length(); i += 8) {
            int v = 0;
            for (int k = 0; k < 8; k++) {
                v |= bits.charAt(i + k) - '0' << (high ? 7 - k : k);
            }
            out.write(v);
        }
        return out.toByteArray();
    }
}
