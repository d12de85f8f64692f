import java.util.function.ToLongFunction;

/** Every REFUSAL, in the order in which its promise tells them; it changes nothing but how many there were. */
public final class RefusalsTest {
    private static final int HUGE = Integer.MAX_VALUE;
    private static final int TINY = Integer.MIN_VALUE;
    private static final Due due = new Due();

    public static void main(String[] args) {
        ofCells();
        ofTheCode();
        ofKeys();
        ofPairs();
        ofReadings();
        ofWhatThrows();
        due.end();
    }

    private static void ofCells() {
        refused(-4, "cells(3)", keys -> keys.cells(3));
        refused(-4, "cells(TINY)", keys -> keys.cells(TINY));
        refused(-6, "cells(15)", keys -> keys.cells(15));
        refused(-1, "chip(1024)", keys -> keys.chip(1024));
        refused(-1, "chip(TINY)", keys -> keys.chip(TINY));
        refused(-6, "chip(0)", keys -> keys.chip(0));
        refused(-1, "set(14, 3, 9)", keys -> keys.set(14, 3, 9));
        refused(-1, "set(-1, 0, 0)", keys -> keys.set(-1, 0, 0));
        refused(-2, "set(13, 3, -1)", keys -> keys.set(13, 3, -1));
        refused(-2, "set(0, -1, 9)", keys -> keys.set(0, -1, 9));
        for (int what = 0; what < 3; what++) {
            int of = what;
            refused(-4, "set(0, what, -1)", keys -> keys.set(0, of, -1));
            refused(-6, "set(0, what, 8)", keys -> keys.set(0, of, 8));
        }
        refused(-4, "set(0, 2, 0)", keys -> keys.set(0, 2, 0));
        refused(-6, "set(0, 0, 5)", keys -> keys.set(0, 0, 5));
        refused(-6, "set(0, 1, 5)", keys -> keys.set(0, 1, 5));
        refused(-1, "chance(10, -1)", keys -> keys.chance(10, -1));
        refused(-1, "chance(-1, 41)", keys -> keys.chance(-1, 41));
        refused(-4, "chance(9, -1)", keys -> keys.chance(9, -1));
        refused(-6, "chance(9, 41)", keys -> keys.chance(9, 41));
        refused(-6, "chance(9, HUGE)", keys -> keys.chance(9, HUGE));
        refused(-1, "mask(1024)", keys -> keys.mask(1024));
        refused(-1, "mask(-1)", keys -> keys.mask(-1));
        refused(-4, "maskBy(-1, 5)", keys -> keys.maskBy(-1, 5));
        refused(-4, "maskBy(41, -1)", keys -> keys.maskBy(41, -1));
        refused(-6, "maskBy(41, 0)", keys -> keys.maskBy(41, 0));
        refused(-6, "maskBy(0, 5)", keys -> keys.maskBy(0, 5));
    }

    private static void ofTheCode() {
        refused(-1, "row(1024)", keys -> keys.row(1024));
        refused(-1, "row(-1)", keys -> keys.row(-1));
        refused(-3, "row(0)", keys -> keys.row(0));
        refused(-3, "row(masked)", keys -> keys.row(1));
        refused(-3, "row(a sum and masked)", keys -> keys.row(2 ^ 4 ^ 1));
        refused(-6, "row(512)", keys -> keys.row(512));
        refused(-1, "codeword(64)", keys -> keys.codeword(64));
        refused(-1, "codeword(-1)", keys -> keys.codeword(-1));
        refused(-1, "mended(1024)", keys -> keys.mended(1024));
        refused(-1, "mended(-1)", keys -> keys.mended(-1));
        refused(-1, "clear(1024)", keys -> keys.clear(1024));
        refused(-1, "clear(TINY)", keys -> keys.clear(TINY));
    }

    private static void ofKeys() {
        refused(-1, "enrol(8, 0)", keys -> keys.enrol(8, 0));
        refused(-1, "enrol(-1, 0)", keys -> keys.enrol(-1, 0));
        refused(-1, "enrol(0, 64)", keys -> keys.enrol(0, 64));
        refused(-1, "enrol(0, -1)", keys -> keys.enrol(0, -1));
        refused(-1, "reading(8, 0)", keys -> keys.reading(8, 0));
        refused(-1, "reading(-1, 0)", keys -> keys.reading(-1, 0));
        refused(-1, "reading(0, 1024)", keys -> keys.reading(0, 1024));
        refused(-1, "reading(7, -1), without HELP", keys -> keys.reading(7, -1));
        refused(-3, "reading(7, 0)", keys -> keys.reading(7, 0));
        refused(-1, "lasts(8, -1)", keys -> keys.lasts(8, -1));
        refused(-1, "lasts(-1, 9)", keys -> keys.lasts(-1, 9));
        refused(-3, "lasts(7, -1)", keys -> keys.lasts(7, -1));
        refused(-3, "lasts(7, 9)", keys -> keys.lasts(7, 9));
        refused(-4, "lasts(0, -1)", keys -> keys.lasts(0, -1));
        refused(-6, "lasts(0, 9)", keys -> keys.lasts(0, 9));
        refused(-1, "guess(1024)", keys -> keys.guess(1024));
        refused(-1, "guess(-1)", keys -> keys.guess(-1));
        refused(-1, "even(1024, 2)", keys -> keys.even(1024, 2));
        refused(-1, "even(-1, 0)", keys -> keys.even(-1, 0));
        refused(-2, "even(0, 2)", keys -> keys.even(0, 2));
        refused(-2, "even(0, -1)", keys -> keys.even(0, -1));
    }

    private static void ofPairs() {
        refused(-1, "pair(16, 0)", keys -> keys.pair(16, 0));
        refused(-1, "pair(-1, 0)", keys -> keys.pair(-1, 0));
        refused(-1, "pair(3, 2)", keys -> keys.pair(3, 2));
        refused(-1, "pair(4, -1)", keys -> keys.pair(4, -1));
        refused(-3, "pair(3, 0)", keys -> keys.pair(3, 0));
        refused(-3, "pair(0, 1)", keys -> keys.pair(0, 1));
        refused(-2, "plane(5)", keys -> keys.plane(5));
        refused(-2, "plane(-1)", keys -> keys.plane(-1));
        refused(-1, "foretold(16)", keys -> keys.foretold(16));
        refused(-1, "foretold(-1)", keys -> keys.foretold(-1));
        refused(-1, "check(16, 0)", keys -> keys.check(16, 0));
        refused(-1, "check(-1, 0)", keys -> keys.check(-1, 0));
        refused(-1, "check(0, 2)", keys -> keys.check(0, 2));
        refused(-3, "check(5, 0)", keys -> keys.check(5, 0));
        refused(-3, "check(3, 1), USED", keys -> keys.check(3, 1));
    }

    private static void ofReadings() {
        refused(-1, "whose(1024)", keys -> keys.whose(1024));
        refused(-1, "whose(-1)", keys -> keys.whose(-1));
        refused(-1, "sure(1024)", keys -> keys.sure(1024));
        refused(-1, "sure(-1)", keys -> keys.sure(-1));
        refused(-1, "odd(10)", keys -> keys.odd(10));
        refused(-1, "odd(-1)", keys -> keys.odd(-1));
    }

    private static void ofWhatThrows() {
        String argument = "throws.IllegalArgumentException";
        unchanged(argument, "fail(8, 0)", keys -> keys.fail(8, 0));
        unchanged(argument, "fail(-1, 0)", keys -> keys.fail(-1, 0));
        unchanged(argument, "fail(0, -1)", keys -> keys.fail(0, -1));
        unchanged(argument, "fail(0, 41)", keys -> keys.fail(0, 41));
        unchanged(argument, "fail(7, 41), without HELP", keys -> keys.fail(7, 41));
        unchanged("throws.IllegalStateException", "fail(7, 0)", keys -> keys.fail(7, 0));
        unchanged(argument, "weight(1024, false)", keys -> keys.weight(1024, false));
        unchanged(argument, "weight(-1, true)", keys -> keys.weight(-1, true));
        unchanged("-9", "count(8)", keys -> keys.count(8));
    }

    /** An object that is full: 8 CHIPS (the last without HELP), 6 ROWS, a MASK, PAIRS of which one is USED. */
    private static NoiseKeys full() {
        NoiseKeys keys = new NoiseKeys();
        keys.cells(10);
        keys.mask(1);
        for (int i = 1; i <= 6; i++) {
            keys.row(1 << i);
        }
        for (int chip = 0; chip < 8; chip++) {
            keys.chip(chip * 113);
        }
        for (int chip = 0; chip < 7; chip++) {
            keys.enrol(chip, chip * 9);
        }
        keys.set(3, 1, 2);
        keys.set(4, 2, 6);
        keys.pair(3, 1);
        keys.pair(0, 0);
        keys.check(3, 1);
        return keys;
    }

    private static void refused(int number, String name, ToLongFunction<NoiseKeys> call) {
        Untouched.by(due, RefusalsTest::full, number, Integer.toString(number), name, call);
    }

    private static void unchanged(String answer, String name, ToLongFunction<NoiseKeys> call) {
        Untouched.by(due, RefusalsTest::full, 0, answer, name, call);
    }
}
