import java.util.Arrays;
import java.util.Random;

/** Runs of 512 calls, the same ones every time, on the class and on the plain reading of the document. */
public final class RandomRunsTest {
    private static final int RUNS = 150;
    private static final int CALLS = 512;
    private static final int[] EDGES = {-1, 41, 256, 16384, 65536, Integer.MAX_VALUE, Integer.MIN_VALUE, -8};
    /** Calls that bring a run on stand here more than once. */
    private static final String[] NAMES = {
        "cells", "chip", "chip", "set", "set", "set", "chance", "mask", "maskBy", "row", "row", "row", "row",
        "distance", "codeword", "mended", "clear", "enrol", "enrol", "enrol", "enrol", "reading", "reading", "fail",
        "fail", "all", "lasts", "lasts", "guess", "weight", "leak", "even", "expected", "pair", "planes", "plane",
        "foretold", "next", "check", "whose", "sure", "apart", "odd", "count", "count",
    };

    private final Random random;
    private final int mostCells;
    private final NoiseKeys keys = new NoiseKeys();
    private final Plain plain = new Plain();

    private RandomRunsTest(int seed) {
        random = new Random(seed);
        // Few runs have many CELLS: the plain reading takes long over them.
        mostCells = seed % 15 == 0 ? 14 : 8;
    }

    public static void main(String[] args) {
        Due due = new Due();
        for (int run = 0; run < RUNS && due.allRight(); run++) {
            RandomRunsTest test = new RandomRunsTest(run);
            for (int call = 0; call < CALLS && due.allRight(); call++) {
                test.step("run " + run + ", call " + call + ": ", due);
            }
        }
        due.end();
    }

    private void step(String where, Due due) {
        String name = NAMES[random.nextInt(NAMES.length)];
        Object[] arguments = argumentsOf(name);
        String want = Calls.answer(plain, name, arguments);
        String got = Calls.answer(keys, name, arguments);
        due.same(where + name + Arrays.toString(arguments), want, got);
    }

    private Object[] argumentsOf(String name) {
        switch (name) {
            case "cells":
                // Most of them are refused, that a run may go far.
                return row(random.nextInt(6) == 0 ? mostly(4, mostCells) : random.nextInt(2) * 100);
            case "chip": case "row": case "mended": case "clear": case "guess": case "whose": case "sure":
                return row(word());
            case "mask":
                return row(random.nextInt(3) == 0 ? word() & word() & word() : plain.count(4));
            case "maskBy":
                return row(random.nextInt(4) == 0 ? mostly(0, 40) : -1, mostly(2, 4));
            case "set":
                return row(mostly(0, 13), mostly(0, 2), mostly(0, 7));
            case "chance":
                return row(mostly(0, plain.count(0) - 1), mostly(0, 40));
            case "odd":
                return row(mostly(0, plain.count(0) - 1));
            case "codeword":
                return row(key());
            case "enrol":
                return row(chip(), key());
            case "reading":
                return row(chip(), word());
            case "fail":
                return row(chip(), mostly(0, 40));
            case "lasts":
                return row(chip(), random.nextInt(3) == 0 ? mostly(0, 8) : random.nextInt(4));
            case "weight":
                return new Object[] {word(), random.nextBoolean()};
            case "even":
                return row(word(), mostly(0, 1));
            case "pair": case "check":
                return row(mostly(0, 15), mostly(0, 1));
            case "foretold":
                return row(mostly(0, 15));
            case "plane":
                return row(mostly(0, 4));
            case "count":
                return row(mostly(0, 17));
            default:
                return row();
        }
    }

    private static Object[] row(Integer... numbers) {
        return numbers;
    }

    private int mostly(int least, int greatest) {
        int kind = random.nextInt(30);
        if (kind == 0) {
            return EDGES[random.nextInt(EDGES.length)];
        }
        int around = kind < 3 ? 1 : 0;
        return least - around + random.nextInt(greatest - least + 1 + 2 * around);
    }

    private int word() {
        return mostly(0, (1 << plain.count(0)) - 1);
    }

    private int key() {
        return mostly(0, (1 << plain.count(2)) - 1);
    }

    private int chip() {
        return mostly(0, Math.max(0, plain.count(1) - 1));
    }
}
