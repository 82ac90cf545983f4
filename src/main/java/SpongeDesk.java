import java.util.Arrays;

/**
 * Four sponges over one permutation of 1,600 bits: digests, endless rows and sums with a key.
 * Messages come in by bytes or by a tape, are ended, and what is made of them is taken out.
 */
public final class SpongeDesk {
    public static final int NONE = -1;

    private static final int SPONGES = 4;
    private static final int MOST_BYTES_A_CALL = 8;
    private static final int MOST_COMPARED = 64;
    private static final int MOST_CHOSEN = 1000;

    private static final int LAST_KIND = 15;
    private static final int FIRST_ENDLESS = 4;
    private static final int FIRST_NAMED = 6;
    private static final int FIRST_KEYED = 8;
    private static final int FIRST_TUPLE = 12;

    private static final int CHOSEN = -1;
    private static final int[] WIDTHS = {
        144, 136, 104, 72, 168, 136, 168, 136, 168, 136, 168, 136, 168, 136, 168, 136
    };
    /** How many bytes come out of each kind: 0 is any number, CHOSEN is what end() is told. */
    private static final int[] LENGTHS = {
        28, 32, 48, 64, 0, 0, 0, 0, CHOSEN, CHOSEN, 0, 0, CHOSEN, CHOSEN, 0, 0
    };
    private static final byte[] KEYED_NAME = {'K', 'M', 'A', 'C'};
    private static final byte[] TUPLE_NAME = {'T', 'u', 'p', 'l', 'e', 'H', 'a', 's', 'h'};

    private final Row tape;
    private final Row name;
    private final Row custom;
    private final Row key;
    private final Sponge[] sponges;
    // same() looks ahead in these, so that the sponges themselves stay where they are.
    private final Sponge ahead;
    private final Sponge otherAhead;

    public SpongeDesk() {
        tape = new Row();
        name = new Row();
        custom = new Row();
        key = new Row();
        sponges = new Sponge[SPONGES];
        for (int k = 0; k < SPONGES; k++) {
            sponges[k] = new Sponge();
        }
        ahead = new Sponge();
        otherAhead = new Sponge();
    }

    public int feed(int n, long bytes) throws IllegalArgumentException {
        refuseUnless(isByteCount(n));
        return tape.hasRoomFor(n) ? tape.append(n, bytes) : NONE;
    }

    public int wipe() {
        int had = tape.length;
        tape.length = 0;
        return had;
    }

    public int let(int which) throws IllegalArgumentException {
        refuseUnless(which >= 0 && which <= 2);
        Row row = which == 0 ? name : which == 1 ? custom : key;
        row.becomeLike(tape);
        tape.length = 0;
        return row.length;
    }

    public void begin(int k, int kind) throws IndexOutOfBoundsException, IllegalArgumentException {
        Sponge sponge = spongeAt(k);
        refuseUnless(kind >= 0 && kind <= LAST_KIND);
        sponge.restart(kind);
        if (kind >= FIRST_TUPLE) {
            sponge.takePrefix(TUPLE_NAME, TUPLE_NAME.length, custom);
        } else if (kind >= FIRST_KEYED) {
            sponge.takePrefix(KEYED_NAME, KEYED_NAME.length, custom);
            sponge.takeKey(key);
        } else if (kind >= FIRST_NAMED && name.length + custom.length > 0) {
            sponge.takePrefix(name.bytes, name.length, custom);
        }
    }

    public int absorb(int k) throws IndexOutOfBoundsException, IllegalStateException {
        Sponge sponge = spongeAt(k);
        refuseStateUnless(!sponge.ended);
        return sponge.takeTape(tape);
    }

    public int bytes(int k, int n, long bytes)
            throws IndexOutOfBoundsException, IllegalArgumentException, IllegalStateException {
        Sponge sponge = spongeAt(k);
        refuseUnless(isByteCount(n));
        refuseStateUnless(!sponge.ended && sponge.kind < FIRST_TUPLE);
        return sponge.takeLong(n, bytes);
    }

    public void end(int k, int length)
            throws IndexOutOfBoundsException, IllegalArgumentException, IllegalStateException {
        Sponge sponge = spongeAt(k);
        refuseUnless(isLengthOf(sponge.kind, length));
        refuseStateUnless(!sponge.ended);
        sponge.finish(length);
    }

    public long squeeze(int k, int n)
            throws IndexOutOfBoundsException, IllegalArgumentException, IllegalStateException {
        Sponge sponge = spongeAt(k);
        refuseUnless(isByteCount(n));
        refuseStateUnless(sponge.canGive(n));
        return sponge.giveLong(n);
    }

    public int left(int k) throws IndexOutOfBoundsException {
        return spongeAt(k).remaining;
    }

    public void copy(int k, int i) throws IndexOutOfBoundsException {
        Sponge target = spongeAt(k);
        target.becomeLike(spongeAt(i));
    }

    public int kind(int k) throws IndexOutOfBoundsException {
        Sponge sponge = spongeAt(k);
        return sponge.ended ? sponge.kind + LAST_KIND + 1 : sponge.kind;
    }

    public boolean same(int k, int i, int n)
            throws IndexOutOfBoundsException, IllegalArgumentException, IllegalStateException {
        Sponge one = spongeAt(k);
        Sponge other = spongeAt(i);
        refuseUnless(n >= 1 && n <= MOST_COMPARED);
        refuseStateUnless(one.canGive(n) && other.canGive(n));
        ahead.becomeLike(one);
        otherAhead.becomeLike(other);
        return givesSame(n);
    }

    private boolean givesSame(int n) {
        for (int count = 0; count < n; count++) {
            if (ahead.giveByte() != otherAhead.giveByte()) {
                return false;
            }
        }
        return true;
    }

    private Sponge spongeAt(int k) {
        if (k < 0 || k >= SPONGES) {
            throw new IndexOutOfBoundsException("there is no such sponge");
        }
        return sponges[k];
    }

    private static void refuseUnless(boolean fine) {
        if (!fine) {
            throw new IllegalArgumentException("an argument is out of its range");
        }
    }

    private static void refuseStateUnless(boolean fine) {
        if (!fine) {
            throw new IllegalStateException("the sponge can't do this now");
        }
    }

    private static boolean isByteCount(int n) {
        return n >= 1 && n <= MOST_BYTES_A_CALL;
    }

    private static boolean isLengthOf(int kind, int length) {
        int due = LENGTHS[kind];
        return due == CHOSEN ? length >= 1 && length <= MOST_CHOSEN : length == due;
    }

    /** Up to 300 bytes: the tape, and what let() made of it. */
    private static final class Row {
        private static final int ROOM = 300;

        private final byte[] bytes;
        private int length;

        Row() {
            bytes = new byte[ROOM];
            length = 0;
        }

        boolean hasRoomFor(int n) {
            return length + n <= ROOM;
        }

        int append(int n, long lowest) {
            for (int i = 0; i < n; i++) {
                bytes[length + i] = (byte) (lowest >>> (8 * i));
            }
            length += n;
            return length;
        }

        void becomeLike(Row row) {
            System.arraycopy(row.bytes, 0, bytes, 0, row.length);
            length = row.length;
        }
    }

    private static final class Sponge {
        private static final int ENDING_OF_DIGESTS = 6;
        private static final int ENDING_OF_ENDLESS = 31;
        private static final int ENDING_WITH_PREFIX = 4;
        private static final int LAST_BIT = 128;

        private final long[] lanes;
        private int kind;
        private int width;
        private int place;
        private int ending;
        private int taken;
        private boolean ended;
        // NONE before the end, and behind it when there is no end to the bytes.
        private int remaining;

        Sponge() {
            lanes = new long[Permutation.LANES];
            restart(0);
        }

        void restart(int newKind) {
            Arrays.fill(lanes, 0L);
            kind = newKind;
            width = WIDTHS[newKind];
            place = 0;
            ending = newKind < FIRST_ENDLESS ? ENDING_OF_DIGESTS : ENDING_OF_ENDLESS;
            taken = 0;
            ended = false;
            remaining = NONE;
        }

        void becomeLike(Sponge sponge) {
            System.arraycopy(sponge.lanes, 0, lanes, 0, Permutation.LANES);
            kind = sponge.kind;
            width = sponge.width;
            place = sponge.place;
            ending = sponge.ending;
            taken = sponge.taken;
            ended = sponge.ended;
            remaining = sponge.remaining;
        }

        void takePrefix(byte[] name, int nameLength, Row custom) {
            ending = ENDING_WITH_PREFIX;
            takeLeft(width);
            takeString(name, nameLength);
            takeString(custom.bytes, custom.length);
            fillUp();
        }

        void takeKey(Row key) {
            takeLeft(width);
            takeString(key.bytes, key.length);
            fillUp();
        }

        int takeTape(Row tape) {
            if (kind >= FIRST_TUPLE) {
                takeString(tape.bytes, tape.length);
            } else {
                takeRow(tape.bytes, tape.length);
            }
            taken += tape.length;
            return taken;
        }

        int takeLong(int n, long lowest) {
            for (int i = 0; i < n; i++) {
                takeByte((int) (lowest >>> (8 * i)));
            }
            taken += n;
            return taken;
        }

        void finish(int length) {
            if (kind >= FIRST_KEYED) {
                takeRight(8 * length);
            }
            mix(place, ending);
            mix(width - 1, LAST_BIT);
            permute();
            ended = true;
            remaining = length == 0 ? NONE : length;
        }

        boolean canGive(int n) {
            return ended && (remaining == NONE || remaining >= n);
        }

        long giveLong(int n) {
            long given = 0;
            for (int i = 0; i < n; i++) {
                given |= giveByte() << (8 * i);
            }
            if (remaining != NONE) {
                remaining -= n;
            }
            return given;
        }

        long giveByte() {
            if (place >= width) {
                permute();
            }
            long given = (lanes[place >>> 3] >>> (8 * (place & 7))) & 255L;
            place++;
            return given;
        }

        private void takeString(byte[] row, int length) {
            takeLeft(8 * length);
            takeRow(row, length);
        }

        private void takeRow(byte[] row, int length) {
            for (int i = 0; i < length; i++) {
                takeByte(row[i]);
            }
        }

        private void takeLeft(int value) {
            int size = sizeOf(value);
            takeByte(size);
            for (int i = size - 1; i >= 0; i--) {
                takeByte(value >>> (8 * i));
            }
        }

        private void takeRight(int value) {
            int size = sizeOf(value);
            for (int i = size - 1; i >= 0; i--) {
                takeByte(value >>> (8 * i));
            }
            takeByte(size);
        }

        private static int sizeOf(int value) {
            int size = 1;
            while (size < 4 && value >>> (8 * size) != 0) {
                size++;
            }
            return size;
        }

        private void takeByte(int value) {
            mix(place, value);
            place++;
            if (place >= width) {
                permute();
            }
        }

        /** Bytes 0 change nothing as they come in, so that only the permutation behind them is left. */
        private void fillUp() {
            if (place > 0) {
                permute();
            }
        }

        private void mix(int at, int value) {
            lanes[at >>> 3] ^= (value & 255L) << (8 * (at & 7));
        }

        private void permute() {
            for (int round = 0; round < Permutation.ROUNDS; round++) {
                Permutation.mixColumns(lanes);
                Permutation.moveLanes(lanes);
                Permutation.mixRows(lanes);
                lanes[0] ^= Permutation.ROUND_BITS[round];
            }
            place = 0;
        }
    }

    /** The steps of the permutation, over 25 lanes of 64 bits: lane (x, y) is number 5 y + x. */
    private static final class Permutation {
        private static final int LANES = 25;
        private static final int ROUNDS = 24;

        /** Where lane 1 goes, where the lane that was there goes, and so on: steps 2 and 3 in one. */
        private static final int[] PATH = {
            10, 7, 11, 17, 18, 3, 5, 16, 8, 21, 24, 4, 15, 23, 19, 13, 12, 2, 20, 14, 22, 9, 6, 1
        };
        /** How far up the bits of each lane on the path go: (t + 1) (t + 2) / 2, modulo 64. */
        private static final int[] TURNS = {
            1, 3, 6, 10, 15, 21, 28, 36, 45, 55, 2, 14, 27, 41, 56, 8, 25, 43, 62, 18, 39, 61, 20, 44
        };
        /** What step 5 brings into lane (0, 0) in each round: the bits c(7 r + j). */
        private static final long[] ROUND_BITS = {
            0x0000000000000001L, 0x0000000000008082L, 0x800000000000808AL, 0x8000000080008000L,
            0x000000000000808BL, 0x0000000080000001L, 0x8000000080008081L, 0x8000000000008009L,
            0x000000000000008AL, 0x0000000000000088L, 0x0000000080008009L, 0x000000008000000AL,
            0x000000008000808BL, 0x800000000000008BL, 0x8000000000008089L, 0x8000000000008003L,
            0x8000000000008002L, 0x8000000000000080L, 0x000000000000800AL, 0x800000008000000AL,
            0x8000000080008081L, 0x8000000000008080L, 0x0000000080000001L, 0x8000000080008008L
        };

        static void mixColumns(long[] lanes) {
            long c0 = lanes[0] ^ lanes[5] ^ lanes[10] ^ lanes[15] ^ lanes[20];
            long c1 = lanes[1] ^ lanes[6] ^ lanes[11] ^ lanes[16] ^ lanes[21];
            long c2 = lanes[2] ^ lanes[7] ^ lanes[12] ^ lanes[17] ^ lanes[22];
            long c3 = lanes[3] ^ lanes[8] ^ lanes[13] ^ lanes[18] ^ lanes[23];
            long c4 = lanes[4] ^ lanes[9] ^ lanes[14] ^ lanes[19] ^ lanes[24];
            long d0 = c4 ^ (c1 << 1 | c1 >>> 63);
            long d1 = c0 ^ (c2 << 1 | c2 >>> 63);
            long d2 = c1 ^ (c3 << 1 | c3 >>> 63);
            long d3 = c2 ^ (c4 << 1 | c4 >>> 63);
            long d4 = c3 ^ (c0 << 1 | c0 >>> 63);
            for (int first = 0; first < LANES; first += 5) {
                lanes[first] ^= d0;
                lanes[first + 1] ^= d1;
                lanes[first + 2] ^= d2;
                lanes[first + 3] ^= d3;
                lanes[first + 4] ^= d4;
            }
        }

        static void moveLanes(long[] lanes) {
            long moving = lanes[1];
            for (int t = 0; t < PATH.length; t++) {
                int target = PATH[t];
                int turn = TURNS[t];
                long next = lanes[target];
                lanes[target] = moving << turn | moving >>> (64 - turn);
                moving = next;
            }
        }

        static void mixRows(long[] lanes) {
            for (int first = 0; first < LANES; first += 5) {
                long a = lanes[first];
                long b = lanes[first + 1];
                long c = lanes[first + 2];
                long d = lanes[first + 3];
                long e = lanes[first + 4];
                lanes[first] = a ^ (~b & c);
                lanes[first + 1] = b ^ (~c & d);
                lanes[first + 2] = c ^ (~d & e);
                lanes[first + 3] = d ^ (~e & a);
                lanes[first + 4] = e ^ (~a & b);
            }
        }
    }
}
