import java.util.Random;
import java.util.concurrent.Callable;

/** Runs of 512 calls, the most that an object is used for, each answer against the model's. */
public final class RandomRunsTest {
    private static final int RUNS = 120;
    private static final int CALLS = 512;
    private static final int[] DUE = {28, 32, 48, 64, 0, 0, 0, 0, 1, 1, 0, 0, 1, 1, 0, 0};

    private final Random random;
    private final int run;
    private final SpongeDesk desk = new SpongeDesk();
    private final Model model = new Model();

    private RandomRunsTest(int run) {
        this.run = run;
        random = new Random(run);
    }

    public static void main(String[] args) {
        for (int run = 0; run < RUNS; run++) {
            new RandomRunsTest(run).calls();
        }
        Check.close();
    }

    private void calls() {
        // Some runs write much and others take out much, so that both long tapes and long rows are met.
        int writing = 10 + random.nextInt(50);
        for (int count = 0; count < CALLS; count++) {
            if (random.nextInt(100) < writing) {
                write();
            } else {
                work();
            }
        }
    }

    private void write() {
        switch (random.nextInt(24)) {
            case 0:
                both("wipe()", desk::wipe, model::wipe);
                break;
            case 1: case 2: {
                int which = random.nextInt(12) == 0 ? wild() : random.nextInt(3);
                both("let(" + which + ")", () -> desk.let(which), () -> model.let(which));
                break;
            }
            default: {
                int n = size();
                long bytes = random.nextLong();
                both("feed(" + n + ", " + bytes + ")", () -> desk.feed(n, bytes), () -> model.feed(n, bytes));
            }
        }
    }

    private void work() {
        int k = sponge();
        int i = sponge();
        switch (random.nextInt(20)) {
            case 0: case 1: {
                int kind = random.nextInt(20) == 0 ? wild() : random.nextInt(16);
                both("begin(" + k + ", " + kind + ")", Check.done(() -> desk.begin(k, kind)),
                    Check.done(() -> model.begin(k, kind)));
                break;
            }
            case 2: case 3: case 4:
                both("absorb(" + k + ")", () -> desk.absorb(k), () -> model.absorb(k));
                break;
            case 5: case 6: case 7: {
                int n = size();
                long bytes = random.nextLong();
                both("bytes(" + k + ", " + n + ", " + bytes + ")", () -> desk.bytes(k, n, bytes),
                    () -> model.bytes(k, n, bytes));
                break;
            }
            case 8: case 9: {
                int length = lengthFor(k);
                both("end(" + k + ", " + length + ")", Check.done(() -> desk.end(k, length)),
                    Check.done(() -> model.end(k, length)));
                break;
            }
            case 10:
                both("copy(" + k + ", " + i + ")", Check.done(() -> desk.copy(k, i)),
                    Check.done(() -> model.copy(k, i)));
                break;
            case 11:
                both("left(" + k + ")", () -> desk.left(k), () -> model.left(k));
                break;
            case 12:
                both("kind(" + k + ")", () -> desk.kind(k), () -> model.kind(k));
                break;
            case 13: case 14: {
                int n = random.nextInt(8) == 0 ? wild() : 1 + random.nextInt(64);
                both("same(" + k + ", " + i + ", " + n + ")", () -> desk.same(k, i, n), () -> model.same(k, i, n));
                break;
            }
            default: {
                int n = size();
                both("squeeze(" + k + ", " + n + ")", () -> desk.squeeze(k, n), () -> model.squeeze(k, n));
            }
        }
    }

    private int sponge() {
        return random.nextInt(40) == 0 ? wild() : random.nextInt(4);
    }

    private int size() {
        return random.nextInt(30) == 0 ? wild() : random.nextInt(3) == 0 ? 1 + random.nextInt(8) : 8;
    }

    private int wild() {
        int[] wild = {-1, 0, 3, 4, 9, 16, 64, 65, Integer.MIN_VALUE, Integer.MAX_VALUE, 256, -256};
        return wild[random.nextInt(wild.length)];
    }

    private int lengthFor(int k) {
        if (k < 0 || k > 3 || random.nextInt(8) == 0) {
            return random.nextInt(1002);
        }
        int due = DUE[model.kind(k) % 16];
        return due == 1 ? 1 + random.nextInt(random.nextBoolean() ? 1000 : 40) : due;
    }

    private void both(String what, Callable<Object> got, Callable<Object> due) {
        Check.same("run " + run + ": " + what, Check.answer(got), Check.answer(due));
    }
}
