import java.util.function.ToLongFunction;

/** The paragraph of the terms on REFUSALS, over all calls; and the last calls that an object is used for. */
final class EdgesOfRefusals {
    private static final int HUGE = Integer.MAX_VALUE;
    private static final int TINY = Integer.MIN_VALUE;

    private final Edges edges;

    EdgesOfRefusals(Edges edges) {
        this.edges = edges;
    }

    void run() {
        order();
        nobody();
        other();
        state();
        below();
        room();
        lastCalls();
    }

    /** 8 CHIPS, of which the last has no HELP; 6 ROWS; a MASK; PAIRS (3, 1), USED, and (0, 0). */
    private static NoiseKeys full() {
        NoiseKeys keys = new NoiseKeys();
        keys.cells(10);
        keys.mask(0x201);
        for (int i = 1; i <= 6; i++) {
            keys.row(1 << i);
        }
        for (int number = 0; number < 8; number++) {
            keys.chip(number * 131);
        }
        for (int number = 0; number < 7; number++) {
            keys.enrol(number, 63 - number * 9);
        }
        keys.pair(3, 1);
        keys.pair(0, 0);
        keys.check(3, 1);
        return keys;
    }

    private void refused(int number, String name, ToLongFunction<NoiseKeys> call) {
        edges.refused(number, EdgesOfRefusals::full, name, call);
    }

    private void order() {
        edges.terms("REFUSALS (the call answers the number, the first that fits in the order in which it tells them; "
            + "nothing changes but how many there were):");
        refused(-1, "chip: -1, -6", keys -> keys.chip(1024));
        refused(-1, "set: -1, -2, -4", keys -> keys.set(14, 3, -1));
        refused(-1, "set: -1, -2, -6", keys -> keys.set(-1, 3, 8));
        refused(-1, "set: -1, -4", keys -> keys.set(14, 0, -1));
        refused(-1, "set: -1, -6", keys -> keys.set(14, 0, 5));
        refused(-2, "set: -2, -4", keys -> keys.set(0, 3, -1));
        refused(-2, "set: -2, -6", keys -> keys.set(0, -1, 8));
        refused(-1, "chance: -1, -4", keys -> keys.chance(10, -1));
        refused(-1, "chance: -1, -6", keys -> keys.chance(10, 41));
        refused(-4, "maskBy: -4, -6", keys -> keys.maskBy(-1, 5));
        refused(-4, "maskBy: -6, -4", keys -> keys.maskBy(41, -1));
        refused(-1, "row: -1, -6", keys -> keys.row(1024));
        refused(-3, "row: -3, -6", keys -> keys.row(0));
        refused(-1, "reading: -1, -3", keys -> keys.reading(7, 1024));
        refused(-1, "lasts: -1, -4", keys -> keys.lasts(8, -1));
        refused(-1, "lasts: -1, -6", keys -> keys.lasts(8, 9));
        refused(-3, "lasts: -3, -4", keys -> keys.lasts(7, -1));
        refused(-3, "lasts: -3, -6", keys -> keys.lasts(7, 9));
        refused(-1, "even: -1, -2", keys -> keys.even(1024, 2));
        refused(-1, "pair: -1, -3", keys -> keys.pair(3, 2));
        refused(-1, "check: -1, -3", keys -> keys.check(3, 2));
    }

    private void nobody() {
        edges.terms("-1 NOBODY: no such CELL, CHIP, KEY, QUESTION.");
        int[] none = {-1, HUGE, TINY, 1 << 16};
        for (int no : none) {
            refused(-1, "CELL of set", keys -> keys.set(no, 0, 1));
            refused(-1, "CELL of chance", keys -> keys.chance(no, 0));
            refused(-1, "CELL of odd", keys -> keys.odd(no));
            refused(-1, "CELLS of chip", keys -> keys.chip(no));
            refused(-1, "CELLS of mask", keys -> keys.mask(no));
            refused(-1, "CELLS of row", keys -> keys.row(no));
            refused(-1, "CELLS of mended", keys -> keys.mended(no));
            refused(-1, "CELLS of clear", keys -> keys.clear(no));
            refused(-1, "CELLS of reading", keys -> keys.reading(0, no));
            refused(-1, "CELLS of guess", keys -> keys.guess(no));
            refused(-1, "CELLS of even", keys -> keys.even(no, 0));
            refused(-1, "CELLS of whose", keys -> keys.whose(no));
            refused(-1, "CELLS of sure", keys -> keys.sure(no));
            refused(-1, "CHIP of enrol", keys -> keys.enrol(no, 0));
            refused(-1, "CHIP of reading", keys -> keys.reading(no, 0));
            refused(-1, "CHIP of lasts", keys -> keys.lasts(no, 0));
            refused(-1, "KEY of codeword", keys -> keys.codeword(no));
            refused(-1, "KEY of enrol", keys -> keys.enrol(0, no));
            refused(-1, "QUESTION of pair", keys -> keys.pair(no, 0));
            refused(-1, "QUESTION of foretold", keys -> keys.foretold(no));
            refused(-1, "QUESTION of check", keys -> keys.check(no, 0));
        }
    }

    private void other() {
        edges.terms("-2 OTHER: what.");
        int[] others = {-1, 5, HUGE, TINY};
        for (int what : others) {
            refused(-2, "set", keys -> keys.set(0, what, 1));
            refused(-2, "even", keys -> keys.even(0, what));
            refused(-2, "plane", keys -> keys.plane(what));
        }
        edges.same("count has an answer of its own", -9, full().count(-1));
    }

    private void state() {
        edges.terms("-3 STATE: it is not as it must be.");
        refused(-3, "a ROW that is there", keys -> keys.row(2));
        refused(-3, "no HELP to read with", keys -> keys.reading(7, 0));
        refused(-3, "no HELP to last", keys -> keys.lasts(7, 0));
        refused(-3, "another answer was seen", keys -> keys.pair(0, 1));
        refused(-3, "no PAIR to check", keys -> keys.check(1, 0));
        refused(-3, "a PAIR that is USED", keys -> keys.check(3, 1));
    }

    private void below() {
        edges.terms("-4 BELOW: a number below the least.");
        refused(-4, "N", keys -> keys.cells(3));
        refused(-4, "CHANCE", keys -> keys.set(0, 0, -1));
        refused(-4, "WEAR", keys -> keys.set(0, 1, -1));
        refused(-4, "LEAN", keys -> keys.set(0, 2, 0));
        refused(-4, "AGE of chance", keys -> keys.chance(0, -1));
        refused(-4, "AGE of maskBy", keys -> keys.maskBy(-1, 0));
        refused(-4, "most", keys -> keys.maskBy(0, -1));
        refused(-4, "eighths", keys -> keys.lasts(0, -1));
    }

    private void room() {
        edges.terms("-6 ROOM: a number above the greatest, no room.");
        refused(-6, "N", keys -> keys.cells(15));
        refused(-6, "CHIPS", keys -> keys.chip(0));
        refused(-6, "CHANCE", keys -> keys.set(0, 0, 5));
        refused(-6, "WEAR", keys -> keys.set(0, 1, 5));
        refused(-6, "LEAN", keys -> keys.set(0, 2, 8));
        refused(-6, "AGE of chance", keys -> keys.chance(0, 41));
        refused(-6, "AGE of maskBy", keys -> keys.maskBy(41, 0));
        refused(-6, "most", keys -> keys.maskBy(0, 5));
        refused(-6, "ROWS", keys -> keys.row(256));
        refused(-6, "eighths", keys -> keys.lasts(0, 9));
    }

    private void lastCalls() {
        edges.opening("An object is used for at most 512 calls after it has been made; what later calls answer is free.");
        NoiseKeys keys = new NoiseKeys();
        for (int call = 1; call <= 510; call++) {
            keys.row(0);
        }
        edges.same("the 511th call", 510, keys.count(13));
        edges.same("the 512th call", 8, keys.cells(14));
    }
}
