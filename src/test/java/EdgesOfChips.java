/** Part V of the terms as far as ODD, and promises 29 to 33. */
final class EdgesOfChips {
    private static final int HUGE = Integer.MAX_VALUE;
    private static final int TINY = Integer.MIN_VALUE;

    private final Edges edges;

    EdgesOfChips(Edges edges) {
        this.edges = edges;
    }

    void run() {
        termWhose();
        termSure();
        termApart();
        termOdd();
        whose();
        sure();
        apart();
        odd();
        count();
        countOfRefusals();
        countOfAnother();
    }

    private static NoiseKeys having(int... nominals) {
        NoiseKeys keys = new NoiseKeys();
        keys.cells(14);
        for (int nominal : nominals) {
            keys.chip(nominal);
        }
        return keys;
    }

    private void termWhose() {
        edges.terms("WHOSE is a READING: of CHIPS (CELLS not masked) the one that differs from it in the fewest;");
        edges.same("all CELLS differ", 0, having(0).whose(16383));
        edges.same("13 and 14 CELLS", 1, having(0, 1).whose(16383));
        edges.same("14 and 13 CELLS", 0, having(1, 0).whose(16383));
        edges.same("the last of 8", 7, having(1, 2, 4, 8, 16, 32, 64, 128).whose(128));
        NoiseKeys keys = having(0x3f80, 0x007f);
        edges.same("8 and 6 CELLS", 1, keys.whose(0x00ff));
        keys.mask(0x007e);
        edges.same("2 and 1 CELLS not masked", 1, keys.whose(0x00ff));
        edges.same("6 and 1 CELLS not masked", 1, keys.whose(0x007e));
        keys.mask(0x3f7e);
        edges.same("1 and 1 CELLS not masked", 0, keys.whose(0x0081));
        keys.mask(16383);
        edges.same("all masked", 0, keys.whose(0x007f));
    }

    private void termSure() {
        edges.terms("SURE if no other differs in so few, nor in 1 or 2 more.");
        for (int near = 0; near <= 4; near++) {
            for (int more = 0; more <= 6; more++) {
                int word = (1 << near) - 1;
                int other = word ^ (1 << near + more) - 1 << 14 - near - more;
                int due = more > 2 ? 1 : 0;
                String what = near + " CELLS, another " + more + " more";
                edges.same(what, due, having(0, other).sure(word));
                edges.same(what + ", the other first", due, having(other, 0).sure(word));
                edges.same(what + ", and all of them", due, having(0x3fff ^ word, other, 0).sure(word));
            }
        }
        edges.same("CELLS that all have 1: 2 more", 0, having(0x1f00, 0x1f03).sure(0x1f00));
        edges.same("CELLS that all have 1: 3 more", 1, having(0x1f00, 0x1f07).sure(0x1f00));
        NoiseKeys keys = having(0, 7);
        edges.same("3 more", 1, keys.sure(0));
        keys.mask(1);
        edges.same("2 more, a masked one aside", 0, keys.sure(0));
        keys.mask(16383);
        edges.same("all masked", 0, keys.sure(0));
        edges.same("one alone", 1, having(0).sure(16383));
    }

    private void termApart() {
        edges.terms("APART: the fewest CELLS (not masked) in which two CHIPS differ.");
        for (int bits = 0; bits <= 14; bits++) {
            NoiseKeys keys = having(0, (1 << bits) - 1);
            edges.same(bits + " CELLS", bits, keys.apart());
            keys.mask(1);
            edges.same("less a masked one", Math.max(0, bits - 1), keys.apart());
        }
        edges.same("the last two of 8", 1, having(0, 0x3fff, 0x0f, 0xf0, 0xf00, 0xff, 0x1c00, 0x1c01).apart());
        edges.same("the first and the last", 0, having(5, 0x3fff, 0x0f0, 0xf00, 5).apart());
        NoiseKeys keys = having(1, 2);
        keys.mask(16383);
        edges.same("all masked", 0, keys.apart());
    }

    private void termOdd() {
        edges.terms("ODD of a CELL: how many CHIPS' NOMINALS have 1 there.");
        for (int many = 0; many <= 8; many++) {
            NoiseKeys keys = having();
            for (int number = 0; number < 8; number++) {
                keys.chip(number < many ? 1 << 13 : 1);
            }
            edges.same("CELL 13", many, keys.odd(13));
            edges.same("CELL 0", 8 - many, keys.odd(0));
            edges.same("CELL 1", 0, keys.odd(1));
        }
    }

    private void whose() {
        edges.promise(29, "WHOSE a READING is: the CHIP (of several the least);");
        edges.same("two alike", 0, having(9, 9).whose(9));
        edges.same("CHIPS 1, 2 as near", 1, having(255, 1, 2).whose(0));
        edges.same("all as near", 0, having(1, 2, 4, 8, 16, 32, 64, 128).whose(0));
        edges.promise(29, "-9 there are none.");
        edges.untouched("-9", NoiseKeys::new, "no CHIPS", keys -> keys.whose(0));
        NoiseKeys keys = having(1, 2);
        keys.cells(14);
        edges.same("none any more", -9, keys.whose(1));
        edges.promise(29, "-1");
        edges.refused(-1, () -> having(1), "whose(1 << 14)", other -> other.whose(1 << 14));
        edges.refused(-1, () -> having(1), "whose(-1)", other -> other.whose(-1));
        edges.refused(-1, () -> having(1), "whose(TINY)", other -> other.whose(TINY));
        edges.refused(-1, () -> having(1), "whose(HUGE)", other -> other.whose(HUGE));
        edges.refused(-1, NoiseKeys::new, "whose(256), no CHIPS", other -> other.whose(256));
    }

    private void sure() {
        edges.promise(30, "Whether that is SURE: 1, 0.");
        edges.same("one alone", 1, having(9).sure(0));
        edges.same("two alike", 0, having(9, 9).sure(9));
        edges.same("far off", 1, having(9, 0x3ff0).sure(9));
        edges.same("no CHIPS", 0, having().sure(0));
        edges.promise(30, "-1");
        edges.refused(-1, () -> having(1), "sure(1 << 14)", other -> other.sure(1 << 14));
        edges.refused(-1, () -> having(1), "sure(-1)", other -> other.sure(-1));
        edges.refused(-1, () -> having(1), "sure(TINY)", other -> other.sure(TINY));
        edges.refused(-1, () -> having(1), "sure(HUGE)", other -> other.sure(HUGE));
        edges.refused(-1, NoiseKeys::new, "sure(256), no CHIPS", other -> other.sure(256));
    }

    private void apart() {
        edges.promise(31, "APART;");
        edges.same("two", 14, having(0, 16383).apart());
        edges.same("two alike", 0, having(7, 7).apart());
        edges.promise(31, "-9 less than two CHIPS.");
        edges.untouched("-9", NoiseKeys::new, "none", keys -> keys.apart());
        edges.untouched("-9", () -> having(3), "one", keys -> keys.apart());
        NoiseKeys keys = having(1, 2);
        keys.cells(4);
        keys.chip(1);
        edges.same("one again", -9, keys.apart());
    }

    private void odd() {
        edges.promise(32, "ODD of a CELL (masked ones, too).");
        NoiseKeys keys = having(0x2001, 0x2001, 1);
        keys.mask(0x2001);
        edges.same("the first, masked", 3, keys.odd(0));
        edges.same("the last, masked", 2, keys.odd(13));
        edges.same("one between", 0, keys.odd(6));
        keys.cells(8);
        edges.same("no CHIPS", 0, keys.odd(0));
        edges.promise(32, "-1");
        edges.refused(-1, () -> having(1), "odd(14)", other -> other.odd(14));
        edges.refused(-1, NoiseKeys::new, "odd(8)", other -> other.odd(8));
        edges.refused(-1, () -> having(1), "odd(-1)", other -> other.odd(-1));
        edges.refused(-1, () -> having(1), "odd(32)", other -> other.odd(32));
        edges.refused(-1, () -> having(1), "odd(HUGE)", other -> other.odd(HUGE));
        edges.refused(-1, () -> having(1), "odd(TINY)", other -> other.odd(TINY));
    }

    private void count() {
        edges.promise(33, "0 N, 1 CHIPS, 2 K, 3 M, 4 MASK, 5 CHIPS with HELP, 6 PAIRS, 7 USED ones,");
        NoiseKeys keys = having(1, 2, 3, 4, 5, 6, 7, 8);
        keys.mask(0x3000);
        for (int i = 0; i < 6; i++) {
            keys.row(1 << i);
        }
        for (int number = 0; number < 8; number++) {
            keys.enrol(number, number);
            edges.same("CHIPS with HELP", number + 1, keys.count(5));
        }
        for (int question = 0; question < 16; question++) {
            keys.pair(question, 1);
            keys.check(question, question & 1);
        }
        int[] due = {14, 8, 6, 12, 0x3000, 8, 16, 16};
        for (int what = 0; what < due.length; what++) {
            edges.same("full, count(" + what + ")", due[what], keys.count(what));
        }
        keys.enrol(3, 5);
        keys.mask(16383);
        int[] then = {14, 8, 0, 0, 16383, 0, 16, 16};
        for (int what = 0; what < then.length; what++) {
            edges.same("all masked, count(" + what + ")", then[what], keys.count(what));
        }
    }

    private void countOfRefusals() {
        edges.promise(33, "11 .. 16 REFUSALS -1 .. -6.");
        NoiseKeys keys = new NoiseKeys();
        for (int times = 1; times <= 40; times++) {
            keys.odd(8);
            keys.plane(5);
            keys.row(0);
            keys.cells(3);
            keys.cells(15);
            int[] due = {times, times, times, times, 0, times};
            for (int number = 1; number <= 6; number++) {
                edges.same("REFUSALS -" + number, due[number - 1], keys.count(10 + number));
            }
        }
        keys.cells(14);
        edges.same("another N leaves them", 40, keys.count(11));
    }

    private void countOfAnother() {
        edges.promise(33, "-9 for another what.");
        int[] others = {-1, 8, 9, 10, 17, 18, 27, HUGE, TINY, TINY + 10, TINY + 11, -11, -16};
        for (int what : others) {
            edges.untouched("-9", () -> having(1, 2), "count(" + what + ")", keys -> keys.count(what));
        }
    }
}
