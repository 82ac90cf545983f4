import java.io.ByteArrayOutputStream;
import java.util.Arrays;

/**
 * The document once more, as slowly and literally as it can be said: every bit of the state by itself,
 * and whole messages kept until they are ended.
 */
final class Model {
    private static final int[] WIDTHS = {144, 136, 104, 72};
    private static final int[] LENGTHS = {28, 32, 48, 64};

    private byte[] tape = {};
    private final byte[][] let = {{}, {}, {}};
    private final ModelSponge[] sponges = new ModelSponge[4];

    Model() {
        for (int k = 0; k < 4; k++) {
            sponges[k] = new ModelSponge(0, let);
        }
    }

    int feed(int n, long bytes) {
        argument(n >= 1 && n <= 8);
        if (tape.length + n > 300) {
            return -1;
        }
        tape = join(tape, lowest(n, bytes));
        return tape.length;
    }

    int wipe() {
        int had = tape.length;
        tape = new byte[0];
        return had;
    }

    int let(int which) {
        argument(which == 0 || which == 1 || which == 2);
        let[which] = tape;
        tape = new byte[0];
        return let[which].length;
    }

    void begin(int k, int kind) {
        index(k);
        argument(kind >= 0 && kind <= 15);
        sponges[k] = new ModelSponge(kind, let);
    }

    int absorb(int k) {
        index(k);
        state(!sponges[k].ended());
        sponges[k].message = join(sponges[k].message, sponges[k].kind >= 12 ? string(tape) : tape);
        return sponges[k].count += tape.length;
    }

    int bytes(int k, int n, long bytes) {
        index(k);
        argument(n >= 1 && n <= 8);
        state(!sponges[k].ended());
        state(sponges[k].kind < 12);
        sponges[k].message = join(sponges[k].message, lowest(n, bytes));
        return sponges[k].count += n;
    }

    void end(int k, int length) {
        index(k);
        ModelSponge sponge = sponges[k];
        switch (sponge.kind) {
            case 0: case 1: case 2: case 3:
                argument(length == LENGTHS[sponge.kind]);
                break;
            case 8: case 9: case 12: case 13:
                argument(length >= 1 && length <= 1000);
                break;
            default:
                argument(length == 0);
        }
        state(!sponge.ended());
        sponge.end(length);
    }

    long squeeze(int k, int n) {
        index(k);
        argument(n >= 1 && n <= 8);
        state(sponges[k].has(n));
        long value = 0;
        for (int i = 0; i < n; i++) {
            value |= (sponges[k].next(i) & 255L) << (8 * i);
        }
        sponges[k].gone += n;
        return value;
    }

    int left(int k) {
        index(k);
        ModelSponge sponge = sponges[k];
        return !sponge.ended() || sponge.length == 0 ? -1 : sponge.length - sponge.gone;
    }

    void copy(int k, int i) {
        index(k);
        index(i);
        sponges[k] = new ModelSponge(sponges[i]);
    }

    int kind(int k) {
        index(k);
        return sponges[k].kind + (sponges[k].ended() ? 16 : 0);
    }

    boolean same(int k, int i, int n) {
        index(k);
        index(i);
        argument(n >= 1 && n <= 64);
        state(sponges[k].has(n));
        state(sponges[i].has(n));
        for (int at = 0; at < n; at++) {
            if (sponges[k].next(at) != sponges[i].next(at)) {
                return false;
            }
        }
        return true;
    }

    private static void index(int k) {
        if (k < 0 || k > 3) {
            throw new IndexOutOfBoundsException();
        }
    }

    private static void argument(boolean fine) {
        if (!fine) {
            throw new IllegalArgumentException();
        }
    }

    private static void state(boolean fine) {
        if (!fine) {
            throw new IllegalStateException();
        }
    }

    static byte[] join(byte[]... rows) {
        ByteArrayOutputStream all = new ByteArrayOutputStream();
        for (byte[] row : rows) {
            all.write(row, 0, row.length);
        }
        return all.toByteArray();
    }

    static byte[] lowest(int n, long bytes) {
        byte[] row = new byte[n];
        for (int i = 0; i < n; i++) {
            row[i] = (byte) (bytes >> (8 * i));
        }
        return row;
    }

    /** The fewest bytes that have room for a number, the highest first. */
    static byte[] number(int value) {
        byte[] row = {(byte) value};
        for (int rest = value / 256; rest > 0; rest /= 256) {
            row = join(new byte[] {(byte) rest}, row);
        }
        return row;
    }

    static byte[] left(byte[] number) {
        return join(new byte[] {(byte) number.length}, number);
    }

    static byte[] right(byte[] number) {
        return join(number, new byte[] {(byte) number.length});
    }

    static byte[] string(byte[] row) {
        return join(left(number(8 * row.length)), row);
    }

    static byte[] pad(int width, byte[] row) {
        byte[] padded = join(left(number(width)), row);
        while (padded.length % width != 0) {
            padded = join(padded, new byte[1]);
        }
        return padded;
    }

    private static final class ModelSponge {
        private final int kind;
        private final int width;
        private final int last;
        private byte[] message = {};
        private int count = 0;
        private int length = 0;
        private int gone = 0;
        private byte[] out = {};
        private boolean[][][] state = null;

        ModelSponge(int kind, byte[][] let) {
            this.kind = kind;
            width = kind < 4 ? WIDTHS[kind] : kind % 2 == 0 ? 168 : 136;
            boolean bare = kind < 6 || kind < 8 && let[0].length == 0 && let[1].length == 0;
            last = kind < 4 ? 6 : bare ? 31 : 4;
            if (!bare) {
                byte[] first = kind < 8 ? let[0] : Rows.of(kind < 12 ? "KMAC" : "TupleHash");
                message = pad(width, join(string(first), string(let[1])));
            }
            if (kind >= 8 && kind < 12) {
                message = join(message, pad(width, string(let[2])));
            }
        }

        ModelSponge(ModelSponge like) {
            kind = like.kind;
            width = like.width;
            last = like.last;
            message = like.message;
            count = like.count;
            length = like.length;
            gone = like.gone;
            out = like.out;
            state = like.state;
        }

        boolean ended() {
            return state != null;
        }

        boolean has(int n) {
            return ended() && (length == 0 || length - gone >= n);
        }

        void end(int newLength) {
            length = newLength;
            byte[] whole = kind < 8 ? message : join(message, right(number(8 * length)));
            byte[] padded = Arrays.copyOf(whole, (whole.length / width + 1) * width);
            padded[whole.length] ^= (byte) last;
            padded[padded.length - 1] ^= (byte) 128;
            state = new boolean[5][5][64];
            for (int from = 0; from < padded.length; from += width) {
                for (int i = 0; i < 8 * width; i++) {
                    state[i / 64 % 5][i / 320][i % 64] ^= (padded[from + i / 8] >> i % 8 & 1) == 1;
                }
                state = Bits.permuted(state);
            }
        }

        byte next(int at) {
            while (gone + at >= out.length) {
                if (out.length > 0) {
                    state = Bits.permuted(state);
                }
                out = join(out, Arrays.copyOf(bytesOfState(), width));
            }
            return out[gone + at];
        }

        private byte[] bytesOfState() {
            byte[] row = new byte[200];
            for (int i = 0; i < 1600; i++) {
                row[i / 8] |= (byte) (state[i / 64 % 5][i / 320][i % 64] ? 1 << i % 8 : 0);
            }
            return row;
        }
    }
}
