/** Rows of bytes for the tests, and the ways they go into a desk and out of it. */
final class Rows {
    private Rows() {
    }

    static byte[] of(String text) {
        byte[] row = new byte[text.length()];
        for (int i = 0; i < row.length; i++) {
            row[i] = (byte) text.charAt(i);
        }
        return row;
    }

    static byte[] ofHex(String digits) {
        byte[] row = new byte[digits.length() / 2];
        for (int i = 0; i < row.length; i++) {
            row[i] = (byte) Integer.parseInt(digits.substring(2 * i, 2 * i + 2), 16);
        }
        return row;
    }

    static byte[] upFrom(int first, int length) {
        byte[] row = new byte[length];
        for (int i = 0; i < length; i++) {
            row[i] = (byte) (first + i);
        }
        return row;
    }

    /** A row without a pattern that shows, the same one each time. */
    static byte[] odd(int length, int seed) {
        byte[] row = new byte[length];
        new java.util.Random(1000L * length + seed).nextBytes(row);
        return row;
    }

    static long asLong(byte[] row, int from, int n) {
        long value = 0;
        for (int i = 0; i < n; i++) {
            value |= (row[from + i] & 255L) << (8 * i);
        }
        return value;
    }

    static void feed(SpongeDesk desk, byte[] row) {
        for (int from = 0; from < row.length; from += 8) {
            int n = Math.min(8, row.length - from);
            desk.feed(n, asLong(row, from, n));
        }
    }

    static void let(SpongeDesk desk, int which, byte[] row) {
        desk.wipe();
        feed(desk, row);
        desk.let(which);
    }

    static void bytes(SpongeDesk desk, int k, byte[] row, int step) {
        for (int from = 0; from < row.length; from += step) {
            int n = Math.min(step, row.length - from);
            desk.bytes(k, n, asLong(row, from, n));
        }
    }

    /** The next bytes of a sponge as hexadecimal digits, in steps of every size. */
    static String squeeze(SpongeDesk desk, int k, int length) {
        StringBuilder digits = new StringBuilder();
        int step = 1;
        for (int from = 0; from < length; ) {
            int n = Math.min(step, length - from);
            long value = desk.squeeze(k, n);
            for (int i = 0; i < n; i++) {
                digits.append(hex((byte) (value >>> (8 * i))));
            }
            from += n;
            step = step % 8 + 1;
        }
        return digits.toString();
    }

    /** Lets so many bytes come out, in as few calls as can be. */
    static void skip(SpongeDesk desk, int k, int count) {
        for (int from = 0; from < count; from += 8) {
            desk.squeeze(k, Math.min(8, count - from));
        }
    }

    static String hex(byte... row) {
        StringBuilder digits = new StringBuilder();
        for (byte b : row) {
            digits.append(Character.forDigit((b >> 4) & 15, 16)).append(Character.forDigit(b & 15, 16));
        }
        return digits.toString();
    }
}
