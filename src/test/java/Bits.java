/** The permutation, bit by bit, in the document's five steps. */
final class Bits {
    private static final boolean[] C = roundBits();

    private Bits() {
    }

    private static boolean[] roundBits() {
        boolean[] c = new boolean[7 * 24];
        int value = 1;
        for (int t = 0; t < c.length; t++) {
            c[t] = value % 2 == 1;
            value *= 2;
            if (value > 255) {
                value = value - 256 ^ 113;
            }
        }
        return c;
    }

    static boolean[][][] permuted(boolean[][][] state) {
        boolean[][][] a = state;
        for (int r = 0; r < 24; r++) {
            a = nonlinear(moved(turned(columns(a))));
            for (int j = 0; j <= 6; j++) {
                a[0][0][(1 << j) - 1] ^= C[7 * r + j];
            }
        }
        return a;
    }

    private static boolean[][][] columns(boolean[][][] a) {
        boolean[][][] b = new boolean[5][5][64];
        for (int x = 0; x < 5; x++) {
            for (int z = 0; z < 64; z++) {
                boolean change = five(a, (x + 4) % 5, z) ^ five(a, (x + 1) % 5, (z + 63) % 64);
                for (int y = 0; y < 5; y++) {
                    b[x][y][z] = a[x][y][z] ^ change;
                }
            }
        }
        return b;
    }

    private static boolean five(boolean[][][] a, int x, int z) {
        return a[x][0][z] ^ a[x][1][z] ^ a[x][2][z] ^ a[x][3][z] ^ a[x][4][z];
    }

    private static boolean[][][] turned(boolean[][][] a) {
        boolean[][][] b = new boolean[5][5][];
        b[0][0] = a[0][0].clone();
        int x = 1;
        int y = 0;
        for (int t = 0; t < 24; t++) {
            b[x][y] = new boolean[64];
            for (int z = 0; z < 64; z++) {
                b[x][y][(z + (t + 1) * (t + 2) / 2) % 64] = a[x][y][z];
            }
            int next = (2 * x + 3 * y) % 5;
            x = y;
            y = next;
        }
        return b;
    }

    private static boolean[][][] moved(boolean[][][] a) {
        boolean[][][] b = new boolean[5][5][];
        for (int x = 0; x < 5; x++) {
            for (int y = 0; y < 5; y++) {
                b[y][(2 * x + 3 * y) % 5] = a[x][y];
            }
        }
        return b;
    }

    private static boolean[][][] nonlinear(boolean[][][] a) {
        boolean[][][] b = new boolean[5][5][64];
        for (int x = 0; x < 5; x++) {
            for (int y = 0; y < 5; y++) {
                for (int z = 0; z < 64; z++) {
                    b[x][y][z] = a[x][y][z] ^ (!a[(x + 1) % 5][y][z] & a[(x + 2) % 5][y][z]);
                }
            }
        }
        return b;
    }
}
