/** A sponge as the document's terms tell it, one byte after the other; the yardstick of the boundary cases. */
final class PlainSponge {
    private final int width;
    private boolean[][][] state = new boolean[5][5][64];
    private int place = 0;

    PlainSponge(int width) {
        this.width = width;
    }

    PlainSponge in(byte... row) {
        for (byte b : row) {
            mix(place, b);
            place++;
            if (place == width) {
                permute();
            }
        }
        return this;
    }

    /** Bytes given as hexadecimal digits, so that a test can write out what comes in. */
    PlainSponge in(String digits) {
        return in(Rows.ofHex(digits));
    }

    /** Bytes 0 up to a multiple of the width. */
    PlainSponge fill() {
        while (place != 0) {
            in((byte) 0);
        }
        return this;
    }

    PlainSponge end(int d) {
        mix(place, d);
        mix(width - 1, 128);
        permute();
        return this;
    }

    String out(int count) {
        byte[] row = new byte[count];
        for (int at = 0; at < count; at++) {
            if (place == width) {
                permute();
            }
            row[at] = byteAt(place);
            place++;
        }
        return Rows.hex(row);
    }

    int place() {
        return place;
    }

    private void permute() {
        state = Bits.permuted(state);
        place = 0;
    }

    private void mix(int at, int value) {
        for (int i = 8 * at; i < 8 * at + 8; i++) {
            state[i / 64 % 5][i / 64 / 5][i % 64] ^= (value >> i % 8 & 1) == 1;
        }
    }

    private byte byteAt(int at) {
        int value = 0;
        for (int i = 8 * at; i < 8 * at + 8; i++) {
            value |= state[i / 64 % 5][i / 64 / 5][i % 64] ? 1 << i % 8 : 0;
        }
        return (byte) value;
    }
}
