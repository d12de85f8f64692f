/** Promises 18 to 22: guess, weight, leak, even, expected. */
public final class GuessTest {
    private static final Due due = new Due();

    public static void main(String[] args) {
        evenLeansTellNothing();
        leansTell();
        maskedCellsTellNothing();
        greatestWeights();
        leaks();
        evenBits();
        evenBitsPassOverMaskedCells();
        expectedBits();
        due.end();
    }

    private static void evenLeansTellNothing() {
        NoiseKeys keys = new NoiseKeys();
        keys.cells(4);
        due.same("without ROWS", 0, keys.guess(9));
        due.same("its WEIGHT", 256, keys.weight(9, false));
        due.same("ALL", 256, keys.weight(9, true));
        keys.row(15);
        due.same("of several the least", 0, keys.guess(15));
        due.same("ALL", 512, keys.weight(15, true));
    }

    private static void leansTell() {
        NoiseKeys keys = new NoiseKeys();
        keys.cells(4);
        keys.row(3);
        keys.row(12);
        keys.set(0, 2, 7);
        keys.set(2, 2, 1);
        keys.set(3, 2, 2);
        due.same("guess(0)", 1, keys.guess(0));
        due.same("WEIGHT", 7 * 4 * 7 * 6, keys.weight(0, false));
        due.same("ALL", (7 * 4 + 1 * 4) * (7 * 6 + 1 * 2), keys.weight(0, true));
        due.same("guess(1)", 0, keys.guess(1));
        due.same("guess(12)", 3, keys.guess(12));
        due.same("guess(13)", 2, keys.guess(13));
        due.same("guess(4)", 3, keys.guess(4));
        due.same("WEIGHT of 4", 7 * 4 * 7 * 2, keys.weight(4, false));
        due.same("guess(16)", -1, keys.guess(16));
        due.same("guess(-1)", -1, keys.guess(-1));
        due.thrown("weight(16)", "throws.IllegalArgumentException", () -> keys.weight(16, false));
        due.thrown("weight(-1)", "throws.IllegalArgumentException", () -> keys.weight(-1, true));
        due.same("what throws is no REFUSAL", 2, keys.count(11));
    }

    private static void maskedCellsTellNothing() {
        NoiseKeys keys = new NoiseKeys();
        keys.cells(4);
        keys.set(0, 2, 7);
        keys.set(1, 2, 5);
        keys.mask(1);
        keys.row(15);
        due.same("guess(1)", 1, keys.guess(1));
        due.same("WEIGHT", 5 * 4 * 4, keys.weight(1, false));
        due.same("ALL", 8 * 4 * 4, keys.weight(1, true));
        keys.mask(15);
        due.same("none left", 1, keys.weight(15, false));
        due.same("none left, ALL", 1, keys.weight(0, true));
        due.same("none left, KEY", 0, keys.guess(15));
    }

    private static void greatestWeights() {
        NoiseKeys keys = new NoiseKeys();
        keys.cells(14);
        long most = 1;
        for (int cell = 0; cell < 14; cell++) {
            keys.set(cell, 2, 7);
            most *= 7;
        }
        due.same("7^14", most, keys.weight(16383, false));
        due.same("1", 1, keys.weight(0, false));
    }

    private static void leaks() {
        NoiseKeys keys = new NoiseKeys();
        due.same("leak()", 8, keys.leak());
        keys.mask(7);
        due.same("less masked ones", 5, keys.leak());
        keys.row(8);
        keys.row(16);
        due.same("less ROWS", 3, keys.leak());
        keys.mask(255);
        due.same("none left", 0, keys.leak());
    }

    private static void evenBits() {
        NoiseKeys keys = new NoiseKeys();
        due.same("alike ones: how many", 0, keys.even(0xcc, 0));
        due.same("alike ones", 0, keys.even(0xcc, 1));
        due.same("1 then 0, first: how many", 1, keys.even(0x01, 0));
        due.same("1 then 0, first", 1, keys.even(0x01, 1));
        due.same("0 then 1, first: how many", 1, keys.even(0x02, 0));
        due.same("0 then 1, first", 0, keys.even(0x02, 1));
        due.same("0 then 1, 1 then 0", 1, keys.even(0x06, 1));
        due.same("1 then 0, 0 then 1", 2, keys.even(0x09, 1));
        due.same("1 0, alike, 1 0, 0 1: how many", 3, keys.even(0x9d, 0));
        due.same("1 0, alike, 1 0, 0 1", 6, keys.even(0x9d, 1));
        due.same("other bits first", -1, keys.even(256, 2));
        due.same("a negative one", -1, keys.even(-1, 0));
        due.same("what 2", -2, keys.even(0, 2));
        due.same("what -1", -2, keys.even(0, -1));
        keys.cells(14);
        due.same("seven ones: how many", 7, keys.even(0x1555, 0));
        due.same("seven ones", 127, keys.even(0x1555, 1));
        due.same("seven zeros: how many", 7, keys.even(0x2aaa, 0));
        due.same("seven zeros", 0, keys.even(0x2aaa, 1));
        keys.cells(5);
        due.same("a last one alone", 0, keys.even(16, 0));
    }

    private static void evenBitsPassOverMaskedCells() {
        NoiseKeys keys = new NoiseKeys();
        keys.mask(0x16);
        due.same("CELLS 0 and 3, 5 and 6: how many", 2, keys.even(0x41, 0));
        due.same("CELLS 0 and 3, 5 and 6", 2, keys.even(0x41, 1));
        due.same("masked ones aside", 2, keys.even(0x57, 1));
        due.same("CELL 7 is alone", 0, keys.even(0x80, 0));
        keys.mask(0xfe);
        due.same("one left", 0, keys.even(0xff, 0));
        keys.mask(0xff);
        due.same("none left", 0, keys.even(0xff, 0));
    }

    private static void expectedBits() {
        NoiseKeys keys = new NoiseKeys();
        due.same("even LEANS", 4 * 32, keys.expected());
        keys.set(0, 2, 7);
        due.same("one leans", 4 * 32, keys.expected());
        keys.set(1, 2, 7);
        due.same("both lean", 14 + 3 * 32, keys.expected());
        keys.set(1, 2, 1);
        due.same("they lean apart", 50 + 3 * 32, keys.expected());
        keys.set(2, 2, 6);
        keys.set(7, 2, 2);
        keys.mask(0x7a);
        due.same("CELLS 0 and 2, 7 is alone", 7 * 2 + 1 * 6, keys.expected());
        keys.mask(0x7e);
        due.same("CELLS 0 and 7", 7 * 6 + 1 * 2, keys.expected());
        keys.mask(0xfe);
        due.same("one left", 0, keys.expected());
    }
}
