/** Promises 29 to 33: whose, sure, apart, odd, count. */
public final class WhoseTest {
    private static final Due due = new Due();

    public static void main(String[] args) {
        noChips();
        nearestOfTheLeastNumber();
        sureIfNoOtherIsNear();
        sureAmongChipsWithOnes();
        maskedCellsAside();
        apartIsTheFewest();
        oddCells();
        counts();
        due.end();
    }

    private static void noChips() {
        NoiseKeys keys = new NoiseKeys();
        due.same("whose(0)", -9, keys.whose(0));
        due.same("sure(0)", 0, keys.sure(0));
        due.same("whose(256)", -1, keys.whose(256));
        due.same("sure(256)", -1, keys.sure(256));
        due.same("apart()", -9, keys.apart());
        keys.chip(3);
        due.same("one is not two", -9, keys.apart());
        due.same("whose(252)", 0, keys.whose(252));
        due.same("no other one", 1, keys.sure(252));
        due.same("REFUSALS", 2, keys.count(11));
    }

    private static void nearestOfTheLeastNumber() {
        NoiseKeys keys = new NoiseKeys();
        keys.chip(0xf0);
        keys.chip(0x0f);
        keys.chip(0xf0);
        due.same("whose(0xf0)", 0, keys.whose(0xf0));
        due.same("whose(0x1f)", 1, keys.whose(0x1f));
        due.same("whose(0x33)", 0, keys.whose(0x33));
        due.same("whose(0x1e)", 1, keys.whose(0x1e));
        due.same("whose(0xe1)", 0, keys.whose(0xe1));
        due.same("whose(0xff)", 0, keys.whose(0xff));
        due.same("whose(-1)", -1, keys.whose(-1));
        due.same("sure(-1)", -1, keys.sure(-1));
    }

    private static void sureIfNoOtherIsNear() {
        int[] sure = {0, 0, 0, 1, 1};
        for (int bits = 0; bits < sure.length; bits++) {
            NoiseKeys keys = new NoiseKeys();
            keys.chip((1 << bits) - 1);
            keys.chip(0);
            due.same("another one with " + bits + " more", sure[bits], keys.sure(0));
            keys.chip(255);
            due.same("and one far off", sure[bits], keys.sure(0));
            due.same("the far one", 1, keys.sure(255));
            due.same("the first one", sure[bits], keys.sure((1 << bits) - 1));
        }
    }

    private static void sureAmongChipsWithOnes() {
        NoiseKeys keys = new NoiseKeys();
        keys.chip(0x0f);
        keys.chip(0x0e);
        due.same("one CELL between them", 0, keys.sure(0x0f));
        keys.cells(8);
        keys.chip(0x0f);
        keys.chip(0x7e);
        due.same("four CELLS between them", 1, keys.sure(0x0f));
        due.same("one and three", 0, keys.sure(0x1f));
    }

    private static void maskedCellsAside() {
        NoiseKeys keys = new NoiseKeys();
        keys.chip(0x0f);
        keys.chip(0x30);
        due.same("whose(0x00)", 1, keys.whose(0x00));
        due.same("sure(0x0f)", 1, keys.sure(0x0f));
        due.same("apart()", 6, keys.apart());
        keys.mask(0x0f);
        due.same("whose(0x00)", 0, keys.whose(0x00));
        due.same("sure(0x0f)", 0, keys.sure(0x0f));
        due.same("apart()", 2, keys.apart());
        keys.mask(0xff);
        due.same("none left", 0, keys.apart());
        due.same("none left", 0, keys.whose(0x30));
    }

    private static void apartIsTheFewest() {
        NoiseKeys keys = new NoiseKeys();
        keys.cells(14);
        keys.chip(0);
        keys.chip(16383);
        due.same("all of them", 14, keys.apart());
        keys.chip(0x7f);
        due.same("half of them", 7, keys.apart());
        keys.chip(0x7f0);
        due.same("first and last, third and last", 7, keys.apart());
        keys.chip(0x7f1);
        due.same("the last two", 1, keys.apart());
        keys.chip(0);
        due.same("first and last", 0, keys.apart());
    }

    private static void oddCells() {
        NoiseKeys keys = new NoiseKeys();
        due.same("no CHIPS", 0, keys.odd(0));
        keys.chip(0x81);
        keys.chip(0x83);
        keys.mask(0x01);
        due.same("masked, too", 2, keys.odd(0));
        due.same("odd(1)", 1, keys.odd(1));
        due.same("odd(2)", 0, keys.odd(2));
        due.same("odd(7)", 2, keys.odd(7));
        due.same("odd(8)", -1, keys.odd(8));
        due.same("odd(-1)", -1, keys.odd(-1));
        keys.cells(14);
        due.same("odd(13)", 0, keys.odd(13));
        due.same("odd(14)", -1, keys.odd(14));
    }

    private static void counts() {
        NoiseKeys keys = new NoiseKeys();
        keys.cells(10);
        keys.mask(6);
        keys.row(8);
        keys.row(48);
        keys.chip(1);
        keys.chip(2);
        keys.chip(3);
        keys.enrol(1, 3);
        keys.pair(1, 1);
        keys.pair(2, 1);
        keys.pair(3, 1);
        keys.pair(4, 1);
        keys.check(1, 1);
        int[] due8 = {10, 3, 2, 8, 6, 1, 4, 1};
        for (int what = 0; what < due8.length; what++) {
            due.same("count(" + what + ")", due8[what], keys.count(what));
        }
        int[] others = {-1, 8, 9, 10, 17, 18, Integer.MAX_VALUE, Integer.MIN_VALUE, Integer.MIN_VALUE + 10};
        for (int what : others) {
            due.same("count(" + what + ")", -9, keys.count(what));
        }
        for (int what = 11; what <= 16; what++) {
            due.same("count(" + what + "): -9 is no REFUSAL", 0, keys.count(what));
        }
    }
}
