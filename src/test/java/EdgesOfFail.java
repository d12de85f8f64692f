/** Part III of the terms as far as LASTS, and promises 15 to 17. */
final class EdgesOfFail {
    private static final int HUGE = Integer.MAX_VALUE;
    private static final int TINY = Integer.MIN_VALUE;
    private static final String ARGUMENT = "throws.IllegalArgumentException";
    private static final String STATE = "throws.IllegalStateException";

    private final Edges edges;

    EdgesOfFail(Edges edges) {
        this.edges = edges;
    }

    void run() {
        termFail();
        termAllKeysAlike();
        termLasts();
        fail();
        failThrows();
        all();
        lasts();
        lastsRefused();
    }

    /** Of eight CELLS two are masked; each has a CHANCE and a WEAR of its own; CHIP 0 has HELP, CHIP 1 has none. */
    private static NoiseKeys worn() {
        NoiseKeys keys = new NoiseKeys();
        keys.mask(0x90);
        keys.row(0x0f);
        keys.row(0x6c);
        keys.chip(0xb5);
        keys.chip(0x4a);
        keys.enrol(0, 2);
        for (int cell = 0; cell < 8; cell++) {
            keys.set(cell, 0, cell % 3);
            keys.set(cell, 1, cell % 5);
        }
        return keys;
    }

    private void termFail() {
        edges.terms("FAIL of a CHIP with HELP (at an AGE): the chance that a READING (its NOMINAL, CELLS flipped by "
            + "their CHANCES) gives another KEY than was drawn: how many of 8^M (M: CELLS that are not masked): the "
            + "sum over all sets of flips of the product over CELLS of CHANCE (flipped) or 8 less CHANCE.");
        int[] ages = {0, 3, 10, 39, 40};
        for (int age : ages) {
            for (int key = 0; key < 4; key++) {
                edges.same("KEY " + key + " at " + age, failByReadings(key, age), failOf(key, age));
            }
        }
    }

    private static long failOf(int key, int age) {
        NoiseKeys keys = worn();
        keys.enrol(0, key);
        return keys.fail(0, age);
    }

    /** FAIL as it is told: every READING that there may be is asked for its KEY. */
    private static long failByReadings(int key, int age) {
        NoiseKeys keys = worn();
        keys.enrol(0, key);
        long sum = 0;
        for (int flips = 0; flips < 256; flips++) {
            if ((flips & 0x90) == 0 && keys.reading(0, 0xb5 ^ flips) != key) {
                sum += waysOf(flips, age);
            }
        }
        return sum;
    }

    private static long waysOf(int flips, int age) {
        long product = 1;
        for (int cell = 0; cell < 8; cell++) {
            if ((0x90 >> cell & 1) == 0) {
                int chance = Math.min(4, cell % 3 + cell % 5 * age / 10);
                product *= (flips >> cell & 1) == 1 ? chance : 8 - chance;
            }
        }
        return product;
    }

    private void termAllKeysAlike() {
        edges.terms("(It is the same for all KEYS but for what is not CLEAR.)");
        NoiseKeys keys = new NoiseKeys();
        keys.cells(7);
        int[] rows = {0x07, 0x19, 0x2a, 0x4b};
        for (int row : rows) {
            keys.row(row);
        }
        keys.chip(0x35);
        keys.set(6, 0, 3);
        for (int key = 0; key < 16; key++) {
            keys.enrol(0, key);
            // Every WORD is CLEAR: no flip, or one, is mended. Of CELL 6 it is 5 ways to stay and 3 to flip.
            long mended = 5 * (117649 + 6 * 16807) + 3 * 117649;
            edges.same("KEY " + key, 2097152 - mended, keys.fail(0, 0));
        }
        keys.cells(4);
        keys.row(3);
        keys.chip(9);
        keys.set(0, 0, 3);
        keys.enrol(0, 0);
        edges.same("KEY 0 has what is not CLEAR", 64 * 3, keys.fail(0, 0));
        keys.enrol(0, 1);
        edges.same("KEY 1 has not", 64 * (64 - 5 * 7), keys.fail(0, 0));
    }

    private void termLasts() {
        edges.terms("LASTS: the least AGE (0 .. 40) at which FAIL is more than a told number of 8^M.");
        for (int eighths = 0; eighths <= 8; eighths++) {
            for (int key = 0; key < 4; key++) {
                NoiseKeys keys = worn();
                keys.enrol(0, key);
                int due = -9;
                for (int age = 40; age >= 0; age--) {
                    due = keys.fail(0, age) * 8 > eighths * keys.all() ? age : due;
                }
                edges.same("lasts(0, " + eighths + ") of KEY " + key, due, keys.lasts(0, eighths));
            }
        }
    }

    /** FAIL is what the one CELL's CHANCE is: so many eighths. */
    private static NoiseKeys oneCell(int chance, int wear) {
        NoiseKeys keys = new NoiseKeys();
        keys.cells(14);
        keys.row(1 << 13);
        keys.chip(0);
        keys.enrol(0, 0);
        keys.set(13, 0, chance);
        keys.set(13, 1, wear);
        return keys;
    }

    private void fail() {
        edges.promise(15, "FAIL of a CHIP at an AGE.");
        long eighth = 1L << 39;
        for (int chance = 0; chance <= 4; chance++) {
            edges.same("CHANCE " + chance, chance * eighth, oneCell(chance, 0).fail(0, 40));
        }
        edges.same("at 0", 0, oneCell(0, 1).fail(0, 0));
        edges.same("at 9", 0, oneCell(0, 1).fail(0, 9));
        edges.same("at 10", eighth, oneCell(0, 1).fail(0, 10));
        edges.same("at 39", 3 * eighth, oneCell(0, 1).fail(0, 39));
        edges.same("at 40", 4 * eighth, oneCell(0, 1).fail(0, 40));
        edges.same("4 eighths at most", 4 * eighth, oneCell(4, 4).fail(0, 40));
        NoiseKeys keys = new NoiseKeys();
        keys.chip(0);
        keys.enrol(0, 0);
        edges.same("without ROWS", 0, keys.fail(0, 40));
        keys.mask(255);
        keys.enrol(0, 0);
        edges.same("all masked", 0, keys.fail(0, 40));
        edges.same("six ROWS of one CELL, all CHANCES 4", 63L << 36, halfOfAll().fail(0, 0));
    }

    /** Six ROWS of one CELL, and every CELL flips as often as it stays: each KEY comes as often as another one. */
    private static NoiseKeys halfOfAll() {
        NoiseKeys keys = new NoiseKeys();
        keys.cells(14);
        for (int cell = 0; cell < 14; cell++) {
            keys.set(cell, 0, 4);
        }
        for (int i = 0; i < 6; i++) {
            keys.row(1 << i);
        }
        keys.chip(0x1234);
        keys.enrol(0, 42);
        return keys;
    }

    private void failThrows() {
        edges.promise(15, "IllegalArgumentException: no such CHIP, AGE;");
        edges.untouched(ARGUMENT, NoiseKeys::new, "no CHIPS", keys -> keys.fail(0, 0));
        edges.untouched(ARGUMENT, EdgesOfFail::worn, "fail(2, 0)", keys -> keys.fail(2, 0));
        edges.untouched(ARGUMENT, EdgesOfFail::worn, "fail(-1, 0)", keys -> keys.fail(-1, 0));
        edges.untouched(ARGUMENT, EdgesOfFail::worn, "fail(HUGE, 0)", keys -> keys.fail(HUGE, 0));
        edges.untouched(ARGUMENT, EdgesOfFail::worn, "fail(TINY, 0)", keys -> keys.fail(TINY, 0));
        edges.untouched(ARGUMENT, EdgesOfFail::worn, "fail(0, 41)", keys -> keys.fail(0, 41));
        edges.untouched(ARGUMENT, EdgesOfFail::worn, "fail(0, -1)", keys -> keys.fail(0, -1));
        edges.untouched(ARGUMENT, EdgesOfFail::worn, "fail(0, HUGE)", keys -> keys.fail(0, HUGE));
        edges.untouched(ARGUMENT, EdgesOfFail::worn, "fail(0, TINY)", keys -> keys.fail(0, TINY));
        edges.untouched(ARGUMENT, EdgesOfFail::worn, "fail(1, 41), without HELP", keys -> keys.fail(1, 41));
        edges.promise(15, "IllegalStateException: it has no HELP.");
        edges.untouched(STATE, EdgesOfFail::worn, "fail(1, 0)", keys -> keys.fail(1, 0));
        edges.untouched(STATE, EdgesOfFail::worn, "fail(1, 40)", keys -> keys.fail(1, 40));
    }

    private void all() {
        edges.promise(16, "8^M.");
        NoiseKeys keys = new NoiseKeys();
        keys.cells(14);
        long due = 1;
        for (int m = 0; m <= 14; m++) {
            keys.mask(16383 >> m);
            edges.same("M " + m, due, keys.all());
            due *= 8;
        }
        keys.cells(4);
        edges.same("N 4", 4096, keys.all());
    }

    private void lasts() {
        edges.promise(17, "LASTS, FAIL being more than eighths of 8^M (0 .. 8);");
        int[] ages = {10, 20, 30, 40};
        for (int eighths = 0; eighths < 4; eighths++) {
            edges.same("eighths " + eighths, ages[eighths], oneCell(0, 1).lasts(0, eighths));
            edges.same("more by one at once", 0, oneCell(eighths + 1, 0).lasts(0, eighths));
        }
        edges.same("63 of 64 are more than 7 eighths", 0, halfOfAll().lasts(0, 7));
        edges.promise(17, "-9 not till 40.");
        edges.same("4 eighths are not more than 4", -9, oneCell(0, 1).lasts(0, 4));
        for (int eighths = 0; eighths <= 4; eighths++) {
            edges.same("as many are not more, " + eighths, -9, oneCell(eighths, 0).lasts(0, eighths));
        }
        edges.untouched("-9", () -> oneCell(4, 4), "lasts(0, 8) is no REFUSAL", keys -> keys.lasts(0, 8));
        edges.same("all are never more than all", -9, halfOfAll().lasts(0, 8));
        NoiseKeys keys = oneCell(4, 4);
        keys.mask(16383);
        keys.enrol(0, 0);
        edges.same("all masked", -9, keys.lasts(0, 0));
    }

    private void lastsRefused() {
        edges.promise(17, "-1");
        edges.refused(-1, NoiseKeys::new, "no CHIPS", keys -> keys.lasts(0, 0));
        edges.refused(-1, EdgesOfFail::worn, "lasts(2, 0)", keys -> keys.lasts(2, 0));
        edges.refused(-1, EdgesOfFail::worn, "lasts(-1, -1)", keys -> keys.lasts(-1, -1));
        edges.refused(-1, EdgesOfFail::worn, "lasts(HUGE, 9)", keys -> keys.lasts(HUGE, 9));
        edges.refused(-1, EdgesOfFail::worn, "lasts(TINY, 0)", keys -> keys.lasts(TINY, 0));
        edges.promise(17, "-3");
        edges.refused(-3, EdgesOfFail::worn, "lasts(1, 0)", keys -> keys.lasts(1, 0));
        edges.refused(-3, EdgesOfFail::worn, "lasts(1, -1)", keys -> keys.lasts(1, -1));
        edges.refused(-3, EdgesOfFail::worn, "lasts(1, 9)", keys -> keys.lasts(1, 9));
        edges.promise(17, "-4");
        edges.refused(-4, EdgesOfFail::worn, "lasts(0, -1)", keys -> keys.lasts(0, -1));
        edges.refused(-4, EdgesOfFail::worn, "lasts(0, TINY)", keys -> keys.lasts(0, TINY));
        edges.promise(17, "-6");
        edges.refused(-6, EdgesOfFail::worn, "lasts(0, 9)", keys -> keys.lasts(0, 9));
        edges.refused(-6, EdgesOfFail::worn, "lasts(0, HUGE)", keys -> keys.lasts(0, HUGE));
    }
}
