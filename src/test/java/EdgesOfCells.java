/** Part I of the terms, and promises 1 to 7. */
final class EdgesOfCells {
    private static final int HUGE = Integer.MAX_VALUE;
    private static final int TINY = Integer.MIN_VALUE;

    private final Edges edges;

    EdgesOfCells(Edges edges) {
        this.edges = edges;
    }

    void run() {
        termCells();
        termWord();
        termChips();
        termChance();
        termWear();
        termMask();
        newObject();
        cells();
        cellsDrop();
        cellsKeep();
        cellsRefused();
        chip();
        chipRefused();
        set();
        setRefused();
        chance();
        chanceRefused();
        mask();
        maskAsItWas();
        maskRefused();
        maskBy();
        maskByRefused();
    }

    private static NoiseKeys ofCells(int n) {
        NoiseKeys keys = new NoiseKeys();
        keys.cells(n);
        return keys;
    }

    /** A MASK, ROWS, two CHIPS with HELP, PAIRS of which one is USED. */
    private static NoiseKeys busy() {
        NoiseKeys keys = new NoiseKeys();
        keys.mask(0x81);
        keys.row(0x0e);
        keys.row(0x70);
        keys.chip(0x55);
        keys.chip(0xff);
        keys.enrol(0, 1);
        keys.enrol(1, 2);
        keys.pair(1, 0);
        keys.pair(2, 1);
        keys.check(1, 0);
        return keys;
    }

    private void termCells() {
        edges.terms("CELLS are 0 to N - 1 (N 4 .. 14; 8 at first).");
        edges.same("N at first", 8, new NoiseKeys().count(0));
        edges.same("CELL 7 at first", 1, new NoiseKeys().chance(7, 0));
        edges.refused(-1, NoiseKeys::new, "CELL 8 at first", keys -> keys.chance(8, 0));
        for (int n = 4; n <= 14; n++) {
            int end = n;
            edges.same("the first of " + n, 1, ofCells(n).chance(0, 0));
            edges.same("the last of " + n, 1, ofCells(n).chance(n - 1, 0));
            edges.same("ODD of the last of " + n, 0, ofCells(n).odd(n - 1));
            edges.refused(-1, () -> ofCells(end), "one behind the last of " + n, keys -> keys.chance(end, 0));
            edges.refused(-1, () -> ofCells(end), "ODD behind the last of " + n, keys -> keys.odd(end));
            edges.refused(-1, () -> ofCells(end), "one ahead of the first", keys -> keys.chance(-1, 0));
        }
    }

    private void termWord() {
        edges.terms("A WORD is a set of CELLS as a number (bit i: CELL i is 1).");
        for (int n = 4; n <= 14; n++) {
            NoiseKeys keys = new NoiseKeys();
            for (int cell = 0; cell < n; cell++) {
                keys.cells(n);
                keys.chip(1 << cell);
                for (int other = 0; other < n; other++) {
                    edges.same("CELL " + other + " of 1 << " + cell, other == cell ? 1 : 0, keys.odd(other));
                }
            }
            int end = 1 << n;
            edges.same("the greatest of " + n, 0, ofCells(n).chip(end - 1));
            int cells = n;
            edges.refused(-1, () -> ofCells(cells), "one more", fresh -> fresh.chip(end));
        }
    }

    private void termChips() {
        edges.terms("CHIPS have numbers from 0 on (8 at most): a WORD, its NOMINAL.");
        NoiseKeys keys = new NoiseKeys();
        for (int number = 0; number < 8; number++) {
            edges.same("CHIP", number, keys.chip(1 << number));
        }
        edges.same("a ninth", -6, keys.chip(255));
        for (int number = 0; number < 8; number++) {
            edges.same("whose NOMINAL", number, keys.whose(1 << number));
        }
    }

    private void termChance() {
        edges.terms("CHANCE of a CELL (of all CHIPS alike): in eighths (0 .. 4) that it answers other than its "
            + "NOMINAL, each time for itself;");
        NoiseKeys keys = ofCells(4);
        keys.row(1);
        keys.row(6);
        keys.chip(0);
        keys.chip(15);
        keys.enrol(0, 3);
        keys.enrol(1, 3);
        for (int p = 0; p <= 4; p++) {
            for (int q = 0; q <= 4; q++) {
                keys.set(0, 0, p);
                keys.set(1, 0, q);
                keys.set(2, 0, 0);
                // KEY 3 stays if neither CELL flips: half of 6 is KEY 1's as well, which is less.
                long stays = (8 - p) * (8 - q) * 64;
                edges.same("CHANCES " + p + ", " + q, 4096 - stays, keys.fail(0, 0));
                edges.same("of another CHIP", 4096 - stays, keys.fail(1, 0));
            }
        }
    }

    private void termWear() {
        edges.terms("WEAR of a CELL (0 .. 4): with an AGE of y years (0 .. 40) its CHANCE is more by WEAR times y by "
            + "10, cut, 4 eighths at most.");
        for (int wear = 0; wear <= 4; wear++) {
            for (int first = 0; first <= 4; first++) {
                NoiseKeys keys = ofCells(14);
                keys.set(13, 0, first);
                keys.set(13, 1, wear);
                for (int age = 0; age <= 40; age++) {
                    int due = first;
                    for (int tenths = 10; tenths <= wear * age && due < 4; tenths += 10) {
                        due++;
                    }
                    edges.same("CHANCE " + first + ", WEAR " + wear + " at " + age, due, keys.chance(13, age));
                }
                edges.same("another CELL does not wear", 1, keys.chance(12, 40));
            }
        }
    }

    private void termMask() {
        edges.terms("MASK: CELLS that are left out (none at first): of all WORDS that are read their bits count 0; "
            + "their CHANCE is 0.");
        edges.same("MASK at first", 0, new NoiseKeys().count(4));
        for (int word = 0; word < 256; word++) {
            NoiseKeys keys = busy();
            int less = word & 0x7e;
            edges.same("mended", keys.mended(less), keys.mended(word));
            edges.same("clear", keys.clear(less), keys.clear(word));
            edges.same("reading", keys.reading(0, less), keys.reading(0, word));
            edges.same("guess", keys.guess(less), keys.guess(word));
            edges.same("weight", keys.weight(less, false), keys.weight(word, false));
            edges.same("ALL", keys.weight(less, true), keys.weight(word, true));
            edges.same("even, how many", keys.even(less, 0), keys.even(word, 0));
            edges.same("even", keys.even(less, 1), keys.even(word, 1));
            edges.same("whose", keys.whose(less), keys.whose(word));
            edges.same("sure", keys.sure(less), keys.sure(word));
        }
        for (int cell = 0; cell < 8; cell++) {
            edges.same("CHANCE of " + cell, cell == 0 || cell == 7 ? 0 : 1, busy().chance(cell, 40));
        }
    }

    private void newObject() {
        edges.promise(1, "N 8, no CHIPS, CHANCES 1, WEARS 0, LEANS 4.");
        NoiseKeys keys = new NoiseKeys();
        int[] counts = {8, 0, 0, 8, 0, 0, 0, 0, -9, -9, -9, 0, 0, 0, 0, 0, 0, -9};
        for (int what = 0; what < counts.length; what++) {
            edges.same("count(" + what + ")", counts[what], keys.count(what));
        }
        for (int cell = 0; cell < 14; cell++) {
            edges.same("CHANCE of " + cell, 1, keys.set(cell, 0, 4));
            edges.same("WEAR of " + cell, 0, keys.set(cell, 1, 4));
            edges.same("LEAN of " + cell, 4, keys.set(cell, 2, 7));
            edges.same("another object", 1, new NoiseKeys().set(cell, 0, 1));
        }
    }

    private void cells() {
        edges.promise(2, "N becomes n");
        edges.promise(2, "what it was.");
        NoiseKeys keys = new NoiseKeys();
        int[] row = {4, 14, 14, 5, 13, 4, 4, 8};
        int before = 8;
        for (int n : row) {
            edges.same("cells(" + n + ")", before, keys.cells(n));
            edges.same("N", n, keys.count(0));
            before = n;
        }
    }

    private void cellsDrop() {
        edges.promise(2, "(no CHIPS, no MASK, no ROWS then;");
        int[] row = {4, 8, 14};
        for (int n : row) {
            NoiseKeys keys = busy();
            keys.cells(n);
            int[] counts = {n, 0, 0, n, 0, 0, 2, 1};
            for (int what = 0; what < counts.length; what++) {
                edges.same("cells(" + n + "), count(" + what + ")", counts[what], keys.count(what));
            }
            edges.same("CHIP 0 is no more", -1, keys.reading(0, 0));
            edges.same("KEY 1 is no more", -1, keys.codeword(1));
            edges.same("no masked CELL", 1, keys.chance(0, 0));
            edges.same("a CHIP of number 0", 0, keys.chip(0));
            edges.same("it has no HELP", -3, keys.reading(0, 0));
            edges.same("a ROW as before", 1, keys.row(0x0e));
        }
    }

    private void cellsKeep() {
        edges.promise(2, "CHANCES, WEARS, LEANS stay)");
        NoiseKeys keys = new NoiseKeys();
        for (int cell = 0; cell < 14; cell++) {
            keys.set(cell, 0, cell % 5);
            keys.set(cell, 1, cell % 4);
            keys.set(cell, 2, 1 + cell % 7);
        }
        keys.cells(4);
        keys.cells(14);
        keys.cells(14);
        for (int cell = 0; cell < 14; cell++) {
            edges.same("CHANCE of " + cell, cell % 5, keys.chance(cell, 0));
            edges.same("CHANCE of " + cell, cell % 5, keys.set(cell, 0, 0));
            edges.same("WEAR of " + cell, cell % 4, keys.set(cell, 1, 0));
            edges.same("LEAN of " + cell, 1 + cell % 7, keys.set(cell, 2, 4));
        }
    }

    private void cellsRefused() {
        edges.promise(2, "-4");
        edges.refused(-4, EdgesOfCells::busy, "cells(3)", keys -> keys.cells(3));
        edges.refused(-4, EdgesOfCells::busy, "cells(0)", keys -> keys.cells(0));
        edges.refused(-4, EdgesOfCells::busy, "cells(-8)", keys -> keys.cells(-8));
        edges.refused(-4, EdgesOfCells::busy, "cells(TINY)", keys -> keys.cells(TINY));
        edges.promise(2, "-6");
        edges.refused(-6, EdgesOfCells::busy, "cells(15)", keys -> keys.cells(15));
        edges.refused(-6, EdgesOfCells::busy, "cells(HUGE)", keys -> keys.cells(HUGE));
    }

    private void chip() {
        edges.promise(3, "A CHIP: its number.");
        NoiseKeys keys = busy();
        edges.same("a third", 2, keys.chip(0));
        edges.same("a NOMINAL that another has", 3, keys.chip(0x55));
        edges.same("masked bits are its own", 4, keys.chip(0x81));
        edges.same("masked bits count in ODD of 0", 4, keys.odd(0));
        edges.same("masked bits count in ODD of 7", 2, keys.odd(7));
        edges.same("the others' HELP stays", 2, keys.count(5));
        edges.same("a new one has none", -3, keys.reading(2, 0));
        edges.same("CHIPS", 5, keys.count(1));
    }

    private void chipRefused() {
        edges.promise(3, "-1 bits of CELLS that there are not;");
        edges.refused(-1, EdgesOfCells::busy, "chip(256)", keys -> keys.chip(256));
        edges.refused(-1, EdgesOfCells::busy, "chip(257)", keys -> keys.chip(257));
        edges.refused(-1, EdgesOfCells::busy, "chip(1 << 14)", keys -> keys.chip(1 << 14));
        edges.refused(-1, EdgesOfCells::busy, "chip(-1)", keys -> keys.chip(-1));
        edges.refused(-1, EdgesOfCells::busy, "chip(HUGE)", keys -> keys.chip(HUGE));
        edges.refused(-1, EdgesOfCells::busy, "chip(TINY)", keys -> keys.chip(TINY));
        edges.refused(-1, EdgesOfCells::eightChips, "of a ninth, too", keys -> keys.chip(256));
        edges.promise(3, "-6 there are 8.");
        edges.same("an eighth", 8, eightChips().count(1));
        edges.refused(-6, EdgesOfCells::eightChips, "a ninth", keys -> keys.chip(0));
        edges.refused(-6, EdgesOfCells::eightChips, "a ninth as one is", keys -> keys.chip(0x55));
    }

    private static NoiseKeys eightChips() {
        NoiseKeys keys = busy();
        for (int number = 2; number < 8; number++) {
            keys.chip(number);
        }
        return keys;
    }

    private void set() {
        edges.promise(4, "Of a CELL (0 .. 13) what 0 CHANCE, 1 WEAR, 2 LEAN becomes v: what it was.");
        int[][] values = {{0, 4, 4, 1}, {4, 0, 0, 3}, {1, 7, 7, 2}};
        int[] fresh = {1, 0, 4};
        for (int cell = 0; cell < 14; cell++) {
            NoiseKeys keys = ofCells(4);
            for (int what = 0; what < 3; what++) {
                int before = fresh[what];
                for (int v : values[what]) {
                    edges.same("set(" + cell + ", " + what + ", " + v + ")", before, keys.set(cell, what, v));
                    before = v;
                }
            }
            for (int other = 0; other < 14; other++) {
                for (int what = 0; what < 3; what++) {
                    int due = other == cell ? values[what][3] : fresh[what];
                    edges.same("of " + other + " what " + what, due, keys.set(other, what, due));
                }
            }
        }
        NoiseKeys keys = busy();
        keys.set(1, 0, 4);
        edges.same("ROWS stay", 2, keys.count(2));
        edges.same("HELP stays", 2, keys.count(5));
    }

    private void setRefused() {
        edges.promise(4, "-1");
        edges.refused(-1, EdgesOfCells::busy, "set(14, 0, 1)", keys -> keys.set(14, 0, 1));
        edges.refused(-1, EdgesOfCells::busy, "set(-1, 0, 1)", keys -> keys.set(-1, 0, 1));
        edges.refused(-1, EdgesOfCells::busy, "set(HUGE, 3, 9)", keys -> keys.set(HUGE, 3, 9));
        edges.refused(-1, EdgesOfCells::busy, "set(TINY, -1, -1)", keys -> keys.set(TINY, -1, -1));
        edges.promise(4, "-2");
        edges.refused(-2, EdgesOfCells::busy, "set(0, 3, 1)", keys -> keys.set(0, 3, 1));
        edges.refused(-2, EdgesOfCells::busy, "set(13, -1, 1)", keys -> keys.set(13, -1, 1));
        edges.refused(-2, EdgesOfCells::busy, "set(0, HUGE, -1)", keys -> keys.set(0, HUGE, -1));
        edges.refused(-2, EdgesOfCells::busy, "set(0, TINY, 9)", keys -> keys.set(0, TINY, 9));
        edges.promise(4, "-4");
        edges.refused(-4, EdgesOfCells::busy, "set(0, 0, -1)", keys -> keys.set(0, 0, -1));
        edges.refused(-4, EdgesOfCells::busy, "set(0, 1, -1)", keys -> keys.set(0, 1, -1));
        edges.refused(-4, EdgesOfCells::busy, "set(0, 2, 0)", keys -> keys.set(0, 2, 0));
        edges.refused(-4, EdgesOfCells::busy, "set(0, 2, TINY)", keys -> keys.set(0, 2, TINY));
        edges.promise(4, "-6");
        edges.refused(-6, EdgesOfCells::busy, "set(13, 0, 5)", keys -> keys.set(13, 0, 5));
        edges.refused(-6, EdgesOfCells::busy, "set(13, 1, 5)", keys -> keys.set(13, 1, 5));
        edges.refused(-6, EdgesOfCells::busy, "set(13, 2, 8)", keys -> keys.set(13, 2, 8));
        edges.refused(-6, EdgesOfCells::busy, "set(13, 0, HUGE)", keys -> keys.set(13, 0, HUGE));
    }

    private void chance() {
        edges.promise(5, "CHANCE of a CELL (0 .. N - 1) at an AGE, masked ones 0.");
        NoiseKeys keys = busy();
        for (int cell = 0; cell < 8; cell++) {
            keys.set(cell, 1, 1);
        }
        edges.same("masked at 0", 0, keys.chance(0, 0));
        edges.same("masked at 40", 0, keys.chance(7, 40));
        edges.same("at 0", 1, keys.chance(1, 0));
        edges.same("at 9", 1, keys.chance(6, 9));
        edges.same("at 10", 2, keys.chance(6, 10));
        edges.same("at 40", 4, keys.chance(1, 40));
        keys.mask(0);
        edges.same("masked no more", 4, keys.chance(7, 40));
    }

    private void chanceRefused() {
        edges.promise(5, "-1");
        edges.refused(-1, EdgesOfCells::busy, "chance(8, 0)", keys -> keys.chance(8, 0));
        edges.refused(-1, EdgesOfCells::busy, "chance(13, -1)", keys -> keys.chance(13, -1));
        edges.refused(-1, EdgesOfCells::busy, "chance(-1, 41)", keys -> keys.chance(-1, 41));
        edges.refused(-1, EdgesOfCells::busy, "chance(TINY, 0)", keys -> keys.chance(TINY, 0));
        edges.refused(-1, EdgesOfCells::busy, "chance(32, 0)", keys -> keys.chance(32, 0));
        edges.promise(5, "-4");
        edges.refused(-4, EdgesOfCells::busy, "chance(1, -1)", keys -> keys.chance(1, -1));
        edges.refused(-4, EdgesOfCells::busy, "chance(0, -1), masked", keys -> keys.chance(0, -1));
        edges.refused(-4, EdgesOfCells::busy, "chance(1, TINY)", keys -> keys.chance(1, TINY));
        edges.promise(5, "-6");
        edges.refused(-6, EdgesOfCells::busy, "chance(1, 41)", keys -> keys.chance(1, 41));
        edges.refused(-6, EdgesOfCells::busy, "chance(0, 41), masked", keys -> keys.chance(0, 41));
        edges.refused(-6, EdgesOfCells::busy, "chance(1, HUGE)", keys -> keys.chance(1, HUGE));
    }

    private void mask() {
        edges.promise(6, "MASK: what it was.");
        for (int n = 4; n <= 14; n++) {
            NoiseKeys keys = ofCells(n);
            int whole = (1 << n) - 1;
            edges.same("the first CELL", 0, keys.mask(1));
            edges.same("the last CELL", 1, keys.mask(1 << n - 1));
            edges.same("M", n - 1, keys.count(3));
            edges.same("all CELLS", 1 << n - 1, keys.mask(whole));
            edges.same("M", 0, keys.count(3));
            edges.same("none", whole, keys.mask(0));
            edges.same("M", n, keys.count(3));
        }
        NoiseKeys keys = busy();
        keys.mask(0);
        int[] counts = {8, 2, 0, 8, 0, 0, 2, 1};
        for (int what = 0; what < counts.length; what++) {
            edges.same("another MASK, count(" + what + ")", counts[what], keys.count(what));
        }
        edges.same("masked bits were a NOMINAL's all the while", 1, keys.whose(0xff));
    }

    private void maskAsItWas() {
        edges.promise(6, "(If it is as it was nothing else changes.)");
        edges.untouched("129", EdgesOfCells::busy, "mask(0x81)", keys -> keys.mask(0x81));
        edges.same("CHIPS with HELP", 2, afterMask(0x81).count(5));
        edges.same("ROWS", 2, afterMask(0x81).count(2));
        edges.same("of another one", 0, afterMask(0x80).count(2));
        NoiseKeys keys = new NoiseKeys();
        keys.row(1);
        edges.same("none as before", 0, keys.mask(0));
        edges.same("ROWS", 1, keys.count(2));
    }

    private static NoiseKeys afterMask(int set) {
        NoiseKeys keys = busy();
        keys.mask(set);
        return keys;
    }

    private void maskRefused() {
        edges.promise(6, "-1 other bits.");
        edges.refused(-1, EdgesOfCells::busy, "mask(256)", keys -> keys.mask(256));
        edges.refused(-1, EdgesOfCells::busy, "mask(0x181)", keys -> keys.mask(0x181));
        edges.refused(-1, EdgesOfCells::busy, "mask(-1)", keys -> keys.mask(-1));
        edges.refused(-1, EdgesOfCells::busy, "mask(TINY)", keys -> keys.mask(TINY));
        edges.refused(-1, EdgesOfCells::busy, "mask(HUGE)", keys -> keys.mask(HUGE));
        edges.refused(-1, () -> ofCells(14), "mask(1 << 14)", keys -> keys.mask(1 << 14));
    }

    private void maskBy() {
        edges.promise(7, "MASK becomes all CELLS whose CHANCE (without MASK) at an AGE is more than most (0 .. 4): it.");
        NoiseKeys keys = ofCells(5);
        for (int cell = 0; cell < 14; cell++) {
            keys.set(cell, 0, Math.min(cell, 4));
        }
        int[] sets = {0x1e, 0x1c, 0x18, 0x10, 0};
        for (int most = 0; most <= 4; most++) {
            edges.same("maskBy(0, " + most + ")", sets[most], keys.maskBy(0, most));
            edges.same("MASK", sets[most], keys.count(4));
        }
        for (int most = 0; most <= 4; most++) {
            keys.mask(31);
            edges.same("though all are masked, " + most, sets[most], keys.maskBy(0, most));
        }
        keys.set(0, 1, 1);
        edges.same("at 9", 0x1e, keys.maskBy(9, 0));
        edges.same("at 10", 0x1f, keys.maskBy(10, 0));
        edges.same("at 39", 0x10, keys.maskBy(39, 3));
        edges.same("at 40", 0x11, keys.maskBy(40, 3));
        edges.same("never more than 4", 0, keys.maskBy(40, 4));
        edges.untouched("0", EdgesOfCells::rowsOfFour, "as it was", same -> same.maskBy(40, 4));
        NoiseKeys another = rowsOfFour();
        edges.same("another one", 15, another.maskBy(0, 0));
        edges.same("ROWS go", 0, another.count(2));
        edges.same("HELP goes", 0, another.count(5));
        edges.same("CHIPS stay", 1, another.count(1));
    }

    private static NoiseKeys rowsOfFour() {
        NoiseKeys keys = ofCells(4);
        keys.row(3);
        keys.chip(5);
        keys.enrol(0, 1);
        return keys;
    }

    private void maskByRefused() {
        edges.promise(7, "-4");
        edges.refused(-4, EdgesOfCells::busy, "maskBy(-1, 0)", keys -> keys.maskBy(-1, 0));
        edges.refused(-4, EdgesOfCells::busy, "maskBy(0, -1)", keys -> keys.maskBy(0, -1));
        edges.refused(-4, EdgesOfCells::busy, "maskBy(TINY, HUGE)", keys -> keys.maskBy(TINY, HUGE));
        edges.refused(-4, EdgesOfCells::busy, "maskBy(HUGE, TINY)", keys -> keys.maskBy(HUGE, TINY));
        edges.promise(7, "-6");
        edges.refused(-6, EdgesOfCells::busy, "maskBy(41, 0)", keys -> keys.maskBy(41, 0));
        edges.refused(-6, EdgesOfCells::busy, "maskBy(40, 5)", keys -> keys.maskBy(40, 5));
        edges.refused(-6, EdgesOfCells::busy, "maskBy(HUGE, 4)", keys -> keys.maskBy(HUGE, 4));
        edges.refused(-6, EdgesOfCells::busy, "maskBy(0, HUGE)", keys -> keys.maskBy(0, HUGE));
    }
}
