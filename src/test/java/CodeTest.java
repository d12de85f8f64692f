/** Promises 8 to 14: row, distance, codeword, mended, clear, enrol, reading. */
public final class CodeTest {
    private static final Due due = new Due();

    public static void main(String[] args) {
        rowsAreNoSums();
        sixRowsAtMost();
        rowsLoseMaskedCells();
        rowsDropHelp();
        distances();
        codewords();
        mendedIsTheNearestOfTheLeastKey();
        maskedBitsCountNothing();
        helpAndReadings();
        due.end();
    }

    private static void rowsAreNoSums() {
        NoiseKeys keys = new NoiseKeys();
        due.same("row(0)", -3, keys.row(0));
        due.same("row(7)", 1, keys.row(7));
        due.same("the same one", -3, keys.row(7));
        due.same("row(28)", 2, keys.row(28));
        due.same("their sum", -3, keys.row(27));
        due.same("row(255)", 3, keys.row(255));
        due.same("a sum of three", -3, keys.row(255 ^ 27));
        due.same("other bits", -1, keys.row(256));
        due.same("a negative one", -1, keys.row(-1));
        due.same("K", 3, keys.count(2));
    }

    private static void sixRowsAtMost() {
        NoiseKeys keys = new NoiseKeys();
        for (int row = 0; row < 6; row++) {
            due.same("row " + row, row + 1, keys.row(1 << row));
        }
        due.same("a seventh", -6, keys.row(64));
        due.same("a sum is told first", -3, keys.row(63));
        due.same("other bits are told first", -1, keys.row(320));
        due.same("K", 6, keys.count(2));
        due.same("codeword(63)", 63, keys.codeword(63));
    }

    private static void rowsLoseMaskedCells() {
        NoiseKeys keys = new NoiseKeys();
        keys.mask(0x0f);
        due.same("masked CELLS alone", -3, keys.row(0x0f));
        due.same("row(0x1f)", 1, keys.row(0x1f));
        due.same("its CODEWORD", 0x10, keys.codeword(1));
        due.same("alike but for masked CELLS", -3, keys.row(0x10));
        due.same("row(0xff)", 2, keys.row(0xff));
        due.same("distance()", 1, keys.distance());
        due.same("codeword(3)", 0xe0, keys.codeword(3));
    }

    private static void rowsDropHelp() {
        NoiseKeys keys = new NoiseKeys();
        keys.chip(1);
        keys.chip(2);
        keys.enrol(0, 0);
        keys.enrol(1, 0);
        due.same("CHIPS with HELP", 2, keys.count(5));
        keys.row(0);
        keys.row(256);
        due.same("a refused ROW drops none", 2, keys.count(5));
        keys.row(15);
        due.same("a ROW drops all", 0, keys.count(5));
        due.same("reading(0, 1)", -3, keys.reading(0, 1));
        for (int chip = 0; chip < 8; chip++) {
            keys.chip(chip);
            keys.enrol(chip, 1);
        }
        due.same("8 CHIPS with HELP", 8, keys.count(5));
        keys.row(240);
        due.same("a ROW drops all 8", 0, keys.count(5));
    }

    private static void distances() {
        NoiseKeys keys = new NoiseKeys();
        due.same("without ROWS", 0, keys.distance());
        keys.row(0xff);
        due.same("of 0xff", 8, keys.distance());
        keys.row(0x3f);
        due.same("with 0x3f", 2, keys.distance());
        keys.mask(0x80);
        due.same("another MASK", 0, keys.distance());
        keys.row(0xff);
        due.same("of 0xff less a CELL", 7, keys.distance());
    }

    private static void codewords() {
        NoiseKeys keys = new NoiseKeys();
        due.same("codeword(0) without ROWS", 0, keys.codeword(0));
        due.same("codeword(1) without ROWS", -1, keys.codeword(1));
        keys.row(3);
        keys.row(5);
        keys.row(48);
        int[] words = {0, 3, 5, 6, 48, 51, 53, 54};
        for (int key = 0; key < 8; key++) {
            due.same("codeword(" + key + ")", words[key], keys.codeword(key));
        }
        due.same("codeword(8)", -1, keys.codeword(8));
        due.same("codeword(-1)", -1, keys.codeword(-1));
    }

    private static void mendedIsTheNearestOfTheLeastKey() {
        NoiseKeys keys = new NoiseKeys();
        due.same("mended(255) without ROWS", 0, keys.mended(255));
        due.same("clear(255) without ROWS", 1, keys.clear(255));
        keys.row(0x0f);
        keys.row(0xf0);
        due.same("mended(0)", 0, keys.mended(0));
        due.same("mended(0x07)", 1, keys.mended(0x07));
        due.same("mended(0x71)", 2, keys.mended(0x71));
        due.same("mended(0xfd)", 3, keys.mended(0xfd));
        due.same("two of four: KEYS 0, 1", 0, keys.mended(0x03));
        due.same("not clear", 0, keys.clear(0x03));
        due.same("KEYS 2, 3", 2, keys.mended(0xf3));
        due.same("not clear", 0, keys.clear(0xf3));
        due.same("KEYS 1, 3", 1, keys.mended(0x3f));
        due.same("not clear", 0, keys.clear(0x3f));
        due.same("KEYS 1, 3 with a flip", 1, keys.mended(0x3e));
        due.same("not clear", 0, keys.clear(0x3e));
        due.same("clear(0x07)", 1, keys.clear(0x07));
        due.same("all four alike", 0, keys.mended(0x33));
        due.same("not clear", 0, keys.clear(0x33));
        due.same("a CODEWORD is clear", 1, keys.clear(0xff));
        due.same("mended(256)", -1, keys.mended(256));
        due.same("mended(-1)", -1, keys.mended(-1));
        due.same("clear(256)", -1, keys.clear(256));
        due.same("clear(-256)", -1, keys.clear(-256));
    }

    private static void maskedBitsCountNothing() {
        NoiseKeys keys = new NoiseKeys();
        keys.mask(0xe0);
        keys.row(0x1f);
        due.same("two bits and masked ones", 0, keys.mended(0xe3));
        due.same("clear, masked ones aside", 1, keys.clear(0xe3));
        due.same("three bits", 1, keys.mended(0x07));
        keys.chip(0xe7);
        due.same("HELP without masked CELLS", 0x18, keys.enrol(0, 1));
        due.same("a READING without masked CELLS", 1, keys.reading(0, 0x07));
        due.same("and with them", 1, keys.reading(0, 0xe4));
    }

    private static void helpAndReadings() {
        NoiseKeys keys = new NoiseKeys();
        keys.row(0x0f);
        keys.row(0xf0);
        keys.chip(0x5a);
        keys.chip(0x00);
        due.same("no HELP yet", -3, keys.reading(0, 0x5a));
        due.same("enrol(0, 2)", 0xaa, keys.enrol(0, 2));
        due.same("CHIPS with HELP", 1, keys.count(5));
        due.same("the other has none", -3, keys.reading(1, 0));
        due.same("its NOMINAL", 2, keys.reading(0, 0x5a));
        due.same("a flip", 2, keys.reading(0, 0x5b));
        due.same("four flips", 3, keys.reading(0, 0x55));
        due.same("three flips", 3, keys.reading(0, 0x5d));
        due.same("two flips: the least KEY", 2, keys.reading(0, 0x59));
        due.same("drawn again", 0x5a, keys.enrol(0, 0));
        due.same("its NOMINAL", 0, keys.reading(0, 0x5a));
        due.same("CHIPS with HELP", 1, keys.count(5));
        due.same("enrol(1, 3)", 0xff, keys.enrol(1, 3));
        due.same("CHIPS with HELP", 2, keys.count(5));
        due.same("enrol(2, 0)", -1, keys.enrol(2, 0));
        due.same("enrol(-1, 0)", -1, keys.enrol(-1, 0));
        due.same("enrol(0, 4)", -1, keys.enrol(0, 4));
        due.same("enrol(0, -1)", -1, keys.enrol(0, -1));
        due.same("reading(2, 0)", -1, keys.reading(2, 0));
        due.same("reading(0, 256)", -1, keys.reading(0, 256));
        due.same("reading(0, -1)", -1, keys.reading(0, -1));
        keys.chip(1);
        due.same("other bits before no HELP", -1, keys.reading(2, 256));
    }
}
