/** Promises 15 to 17: fail, all, lasts. */
public final class FailTest {
    private static final Due due = new Due();

    public static void main(String[] args) {
        threeAlikeCells();
        whatIsNotClearGoesToTheLeastKey();
        fourteenCells();
        maskedCellsDoNotFlip();
        withoutRowsNothingFails();
        failThrows();
        allWays();
        lastsTillFailIsMore();
        lastsAtFirst();
        due.end();
    }

    /** CHANCE p in eighths of three CELLS: two or three flips give the other KEY. */
    private static long twoOrThreeOf(long p) {
        return 3 * p * p * (8 - p) + p * p * p;
    }

    private static void threeAlikeCells() {
        NoiseKeys keys = new NoiseKeys();
        keys.cells(4);
        keys.row(7);
        keys.chip(10);
        keys.enrol(0, 0);
        for (int p = 0; p <= 4; p++) {
            for (int cell = 0; cell < 3; cell++) {
                keys.set(cell, 0, p);
            }
            due.same("fail at CHANCE " + p, 8 * twoOrThreeOf(p), keys.fail(0, 0));
        }
        for (int cell = 0; cell < 3; cell++) {
            keys.set(cell, 0, 0);
            keys.set(cell, 1, 1);
        }
        for (int age = 0; age <= 40; age++) {
            due.same("fail at AGE " + age, 8 * twoOrThreeOf(age / 10), keys.fail(0, age));
        }
    }

    private static void whatIsNotClearGoesToTheLeastKey() {
        NoiseKeys keys = new NoiseKeys();
        keys.cells(4);
        keys.row(3);
        keys.chip(15);
        keys.enrol(0, 0);
        due.same("KEY 0 keeps ties", 64, keys.fail(0, 0));
        keys.enrol(0, 1);
        due.same("KEY 1 loses them", 64 * (64 - 49), keys.fail(0, 0));
    }

    private static void fourteenCells() {
        NoiseKeys keys = new NoiseKeys();
        keys.cells(14);
        keys.row(0x7f);
        keys.row(0x3f80);
        keys.chip(0x2b5d);
        keys.enrol(0, 3);
        for (int p = 0; p <= 4; p++) {
            for (int cell = 0; cell < 14; cell++) {
                keys.set(cell, 0, p);
            }
            long half = threeAtMostOfSeven(p);
            due.same("two ROWS of seven at CHANCE " + p, keys.all() - half * half, keys.fail(0, 0));
        }
        keys.cells(14);
        for (int row = 0; row < 6; row++) {
            keys.row(1 << row + 8);
        }
        keys.chip(0x2b5d);
        keys.enrol(0, 42);
        due.same("six ROWS of one", keys.all() - (1 << 12) * (1L << 24), keys.fail(0, 0));
    }

    private static long threeAtMostOfSeven(int p) {
        int[] choices = {1, 7, 21, 35};
        long sum = 0;
        for (int flips = 0; flips < choices.length; flips++) {
            long product = choices[flips];
            for (int cell = 0; cell < 7; cell++) {
                product *= cell < flips ? p : 8 - p;
            }
            sum += product;
        }
        return sum;
    }

    private static void maskedCellsDoNotFlip() {
        NoiseKeys keys = new NoiseKeys();
        keys.cells(5);
        keys.mask(17);
        keys.row(31);
        keys.chip(21);
        keys.enrol(0, 1);
        keys.set(0, 0, 4);
        keys.set(4, 0, 4);
        due.same("all()", 512, keys.all());
        due.same("fail(0, 0)", twoOrThreeOf(1), keys.fail(0, 0));
    }

    private static void withoutRowsNothingFails() {
        NoiseKeys keys = new NoiseKeys();
        keys.chip(77);
        keys.enrol(0, 0);
        due.same("without ROWS", 0, keys.fail(0, 40));
        keys.mask(255);
        keys.enrol(0, 0);
        due.same("all masked", 0, keys.fail(0, 40));
        due.same("all masked lasts", -9, keys.lasts(0, 0));
        keys.mask(0);
        keys.row(255);
        keys.enrol(0, 1);
        for (int cell = 0; cell < 8; cell++) {
            keys.set(cell, 0, 0);
        }
        due.same("without CHANCES", 0, keys.fail(0, 40));
        due.same("it lasts", -9, keys.lasts(0, 0));
    }

    private static void failThrows() {
        NoiseKeys keys = new NoiseKeys();
        String wrongArgument = "throws.IllegalArgumentException";
        String wrongState = "throws.IllegalStateException";
        due.thrown("no CHIP", wrongArgument, () -> keys.fail(0, 0));
        keys.chip(1);
        due.thrown("no HELP", wrongState, () -> keys.fail(0, 0));
        due.thrown("CHIP 1", wrongArgument, () -> keys.fail(1, 0));
        due.thrown("CHIP -1", wrongArgument, () -> keys.fail(-1, 0));
        due.thrown("AGE -1 without HELP", wrongArgument, () -> keys.fail(0, -1));
        due.thrown("AGE 41 without HELP", wrongArgument, () -> keys.fail(0, 41));
        keys.enrol(0, 0);
        due.thrown("AGE 41", wrongArgument, () -> keys.fail(0, 41));
        due.thrown("AGE 40", "0", () -> keys.fail(0, 40));
        for (int what = 11; what <= 16; what++) {
            due.same("what throws is no REFUSAL " + what, 0, keys.count(what));
        }
    }

    private static void allWays() {
        NoiseKeys keys = new NoiseKeys();
        long ways = 8 * 8 * 8 * 8;
        for (int n = 4; n <= 14; n++) {
            keys.cells(n);
            due.same("all() of " + n, ways, keys.all());
            keys.mask(9);
            due.same("all() of " + n + " less 2", ways / 64, keys.all());
            ways *= 8;
        }
    }

    /** Three alike CELLS with WEAR 1: FAIL is 0, 22, 80, 162, 256 of 512 at 0, 10, 20, 30, 40 years. */
    private static void lastsTillFailIsMore() {
        NoiseKeys keys = new NoiseKeys();
        keys.cells(4);
        keys.mask(8);
        keys.row(7);
        keys.chip(0);
        keys.enrol(0, 1);
        for (int cell = 0; cell < 3; cell++) {
            keys.set(cell, 0, 0);
            keys.set(cell, 1, 1);
        }
        int[] ages = {10, 20, 30, 40, -9, -9, -9, -9, -9};
        for (int eighths = 0; eighths <= 8; eighths++) {
            due.same("lasts(0, " + eighths + ")", ages[eighths], keys.lasts(0, eighths));
        }
        due.same("lasts(0, -1)", -4, keys.lasts(0, -1));
        due.same("lasts(0, 9)", -6, keys.lasts(0, 9));
        due.same("lasts(1, 9)", -1, keys.lasts(1, 9));
        due.same("lasts(-1, 0)", -1, keys.lasts(-1, 0));
        keys.chip(1);
        due.same("no HELP", -3, keys.lasts(1, 9));
        due.same("no HELP", -3, keys.lasts(1, -1));
    }

    private static void lastsAtFirst() {
        NoiseKeys keys = new NoiseKeys();
        keys.row(1);
        keys.chip(0);
        keys.enrol(0, 1);
        due.same("more than 0 at once", 0, keys.lasts(0, 0));
        due.same("an eighth is not more than 1", -9, keys.lasts(0, 1));
        keys.set(0, 1, 4);
        due.same("at 3 years", 3, keys.lasts(0, 1));
        due.same("at 5 years", 5, keys.lasts(0, 2));
        due.same("at 8 years", 8, keys.lasts(0, 3));
        due.same("never more than a half", -9, keys.lasts(0, 4));
    }
}
