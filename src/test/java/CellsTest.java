/** Promises 1 to 7: a new object, cells, chip, set, chance, mask, maskBy. */
public final class CellsTest {
    private static final Due due = new Due();

    public static void main(String[] args) {
        newObject();
        cellsDropChipsMaskAndRows();
        cellsKeepWhatIsToldOfThem();
        chipsAreNumbered();
        setAnswersWhatItWas();
        chancesGrowWithAge();
        maskedCellsHaveNoChance();
        anotherMaskDropsRowsAndHelp();
        maskByChance();
        due.end();
    }

    private static void newObject() {
        NoiseKeys keys = new NoiseKeys();
        int[] counts = {8, 0, 0, 8, 0, 0, 0, 0};
        for (int what = 0; what < counts.length; what++) {
            due.same("new count(" + what + ")", counts[what], keys.count(what));
        }
        for (int what = 11; what <= 16; what++) {
            due.same("new count(" + what + ")", 0, keys.count(what));
        }
        for (int cell = 0; cell < 14; cell++) {
            due.same("new CHANCE of " + cell, 1, keys.set(cell, 0, 1));
            due.same("new WEAR of " + cell, 0, keys.set(cell, 1, 0));
            due.same("new LEAN of " + cell, 4, keys.set(cell, 2, 4));
        }
        due.same("new distance()", 0, keys.distance());
        due.same("new apart()", -9, keys.apart());
        due.same("new leak()", 8, keys.leak());
    }

    private static void cellsDropChipsMaskAndRows() {
        for (int n = 4; n <= 14; n++) {
            NoiseKeys keys = new NoiseKeys();
            keys.mask(1);
            keys.row(6);
            keys.chip(255);
            keys.enrol(0, 1);
            keys.pair(3, 1);
            keys.check(3, 1);
            due.same("cells(" + n + ")", 8, keys.cells(n));
            due.same("N", n, keys.count(0));
            due.same("CHIPS", 0, keys.count(1));
            due.same("K", 0, keys.count(2));
            due.same("M", n, keys.count(3));
            due.same("MASK", 0, keys.count(4));
            due.same("CHIPS with HELP", 0, keys.count(5));
            due.same("PAIRS stay", 1, keys.count(6));
            due.same("USED ones stay", 1, keys.count(7));
            due.same("a CHIP anew", 0, keys.chip((1 << n) - 1));
            due.same("it has no HELP", -3, keys.reading(0, 0));
            due.same("codeword(1)", -1, keys.codeword(1));
            due.same("cells(4)", n, keys.cells(4));
        }
    }

    private static void cellsKeepWhatIsToldOfThem() {
        NoiseKeys keys = new NoiseKeys();
        keys.set(13, 0, 3);
        keys.set(13, 1, 2);
        keys.set(13, 2, 6);
        keys.set(0, 0, 0);
        keys.cells(4);
        keys.cells(14);
        due.same("CHANCE of 13", 3, keys.chance(13, 0));
        due.same("CHANCE of 0", 0, keys.chance(0, 0));
        due.same("WEAR of 13", 2, keys.set(13, 1, 0));
        due.same("LEAN of 13", 6, keys.set(13, 2, 4));
    }

    private static void chipsAreNumbered() {
        NoiseKeys keys = new NoiseKeys();
        keys.mask(255);
        for (int chip = 0; chip < 8; chip++) {
            due.same("chip(255)", chip, keys.chip(255));
            due.same("CHIPS", chip + 1, keys.count(1));
        }
        due.same("a ninth one", -6, keys.chip(0));
        due.same("bits first", -1, keys.chip(256));
        due.same("a negative one", -1, keys.chip(-1));
        due.same("the sign alone", -1, keys.chip(Integer.MIN_VALUE));
        due.same("CHIPS", 8, keys.count(1));
    }

    private static void setAnswersWhatItWas() {
        int[] least = {0, 0, 1};
        int[] greatest = {4, 4, 7};
        int[] fresh = {1, 0, 4};
        for (int cell = 0; cell < 14; cell++) {
            NoiseKeys keys = new NoiseKeys();
            for (int what = 0; what < 3; what++) {
                int before = fresh[what];
                for (int v = least[what]; v <= greatest[what]; v++) {
                    due.same("set(" + cell + ", " + what + ", " + v + ")", before, keys.set(cell, what, v));
                    before = v;
                }
                due.same("below", -4, keys.set(cell, what, least[what] - 1));
                due.same("above", -6, keys.set(cell, what, greatest[what] + 1));
                due.same("it stays", before, keys.set(cell, what, least[what]));
            }
        }
    }

    private static void chancesGrowWithAge() {
        NoiseKeys keys = new NoiseKeys();
        keys.set(0, 0, 0);
        int[][] ages = {{}, {10, 20, 30, 40}, {5, 10, 15, 20}, {4, 7, 10, 14}, {3, 5, 8, 10}};
        for (int wear = 0; wear <= 4; wear++) {
            keys.set(0, 1, wear);
            for (int eighths = 1; eighths <= ages[wear].length; eighths++) {
                int age = ages[wear][eighths - 1];
                due.same("WEAR " + wear + " right before " + age, eighths - 1, keys.chance(0, age - 1));
                due.same("WEAR " + wear + " at " + age, eighths, keys.chance(0, age));
            }
            due.same("WEAR " + wear + " at 40", wear == 0 ? 0 : 4, keys.chance(0, 40));
        }
        keys.set(0, 0, 4);
        due.same("4 eighths at most", 4, keys.chance(0, 40));
    }

    private static void maskedCellsHaveNoChance() {
        NoiseKeys keys = new NoiseKeys();
        due.same("mask(5)", 0, keys.mask(5));
        due.same("masked 0", 0, keys.chance(0, 0));
        due.same("not masked 1", 1, keys.chance(1, 0));
        due.same("masked 2", 0, keys.chance(2, 40));
        due.same("M", 6, keys.count(3));
        due.same("MASK", 5, keys.count(4));
        due.same("mask(255)", 5, keys.mask(255));
        due.same("M of none", 0, keys.count(3));
        due.same("all() of none", 1, keys.all());
        due.same("mask(0)", 255, keys.mask(0));
        due.same("open again", 1, keys.chance(0, 0));
        due.same("mask(256)", -1, keys.mask(256));
        due.same("mask(-1)", -1, keys.mask(-1));
    }

    private static void anotherMaskDropsRowsAndHelp() {
        NoiseKeys keys = new NoiseKeys();
        keys.mask(1);
        keys.row(14);
        keys.chip(200);
        keys.enrol(0, 1);
        due.same("as it was", 1, keys.mask(1));
        due.same("ROWS stay", 1, keys.count(2));
        due.same("HELP stays", 1, keys.count(5));
        due.same("another one", 1, keys.mask(3));
        due.same("ROWS go", 0, keys.count(2));
        due.same("HELP goes", 0, keys.count(5));
        due.same("CHIPS stay", 1, keys.count(1));
    }

    private static void maskByChance() {
        NoiseKeys keys = new NoiseKeys();
        keys.set(0, 0, 4);
        keys.set(1, 0, 3);
        keys.set(2, 1, 1);
        keys.set(7, 0, 0);
        keys.set(13, 0, 4);
        due.same("maskBy(0, 0)", 127, keys.maskBy(0, 0));
        due.same("maskBy(0, 1), though masked", 3, keys.maskBy(0, 1));
        due.same("maskBy(0, 3)", 1, keys.maskBy(0, 3));
        due.same("maskBy(30, 3)", 5, keys.maskBy(30, 3));
        due.same("maskBy(29, 3)", 1, keys.maskBy(29, 3));
        due.same("maskBy(40, 4)", 0, keys.maskBy(40, 4));
        due.same("MASK", 0, keys.count(4));
        keys.maskBy(0, 3);
        keys.row(6);
        keys.chip(9);
        keys.enrol(0, 1);
        due.same("as it was", 1, keys.maskBy(0, 3));
        due.same("ROWS stay", 1, keys.count(2));
        due.same("HELP stays", 1, keys.count(5));
        due.same("another one", 3, keys.maskBy(0, 2));
        due.same("ROWS go", 0, keys.count(2));
        due.same("HELP goes", 0, keys.count(5));
    }
}
