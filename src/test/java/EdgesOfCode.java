import java.util.function.ToIntFunction;

/** Part II of the terms, and promises 8 to 14. */
final class EdgesOfCode {
    private static final int HUGE = Integer.MAX_VALUE;
    private static final int TINY = Integer.MIN_VALUE;

    private final Edges edges;

    EdgesOfCode(Edges edges) {
        this.edges = edges;
    }

    void run() {
        termRows();
        termRowsWithoutMask();
        termRowsGo();
        termKey();
        termDistance();
        termMended();
        termClear();
        termHelp();
        termReading();
        row();
        rowRefused();
        rowTakesHelp();
        distance();
        codeword();
        mended();
        clear();
        enrol();
        reading();
    }

    /** CODEWORDS 0, 0x0f, 0xf0, 0xff; CHIP 0 with HELP of KEY 2, CHIP 1 without. */
    private static NoiseKeys halves() {
        NoiseKeys keys = new NoiseKeys();
        keys.row(0x0f);
        keys.row(0xf0);
        keys.chip(0x5a);
        keys.chip(0x3c);
        keys.enrol(0, 2);
        return keys;
    }

    /** As many ROWS of one CELL each as there may be, and two CHIPS with HELP. */
    private static NoiseKeys sixRows() {
        NoiseKeys keys = new NoiseKeys();
        for (int i = 0; i < 6; i++) {
            keys.row(1 << i);
        }
        keys.chip(0x5a);
        keys.chip(0x3c);
        keys.enrol(0, 63);
        keys.enrol(1, 0);
        return keys;
    }

    private void termRows() {
        edges.terms("THE CODE: ROWS, WORDS told one by one (6 at most; none at first), no row a sum (exclusive or) of "
            + "those that are there");
        edges.same("none at first", 0, new NoiseKeys().count(2));
        int[] rows = {0x3001, 0x1802, 0x0c04, 0x0608, 0x0310, 0x01a0};
        NoiseKeys keys = new NoiseKeys();
        keys.cells(14);
        for (int i = 0; i < 6; i++) {
            for (int key = 0; key < 1 << i; key++) {
                edges.same("the sum " + key + " of " + i + " ROWS", -3, keys.row(sum(rows, key)));
            }
            edges.same("ROW " + i, i + 1, keys.row(rows[i]));
        }
        for (int key = 0; key < 64; key++) {
            edges.same("the sum " + key + " of six ROWS", -3, keys.row(sum(rows, key)));
        }
        edges.same("a seventh", -6, keys.row(0x2000));
        edges.same("all REFUSALS", 63 + 64, keys.count(13));
    }

    private static int sum(int[] rows, int key) {
        int word = 0;
        for (int i = 0; i < rows.length; i++) {
            word ^= (key >> i & 1) == 1 ? rows[i] : 0;
        }
        return word;
    }

    private void termRowsWithoutMask() {
        edges.terms("(asked of WORDS without the MASK's CELLS;");
        NoiseKeys keys = new NoiseKeys();
        keys.mask(0xf0);
        edges.same("masked CELLS alone", -3, keys.row(0xf0));
        edges.same("with others", 1, keys.row(0x91));
        edges.same("the others alone", -3, keys.row(0x01));
        edges.same("other masked CELLS", -3, keys.row(0x61));
        edges.same("another", 2, keys.row(0x02));
        edges.same("a sum with masked CELLS", -3, keys.row(0xf3));
        edges.same("a CODEWORD without masked CELLS", 0x01, keys.codeword(1));
    }

    private void termRowsGo() {
        edges.terms("when the MASK becomes another one, or N, THE CODE has no ROWS any more, and no HELP is there)");
        gone("mask", keys -> keys.mask(1));
        gone("maskBy", keys -> keys.maskBy(0, 0));
        edges.same("CHIPS stay with another MASK", 2, after(keys -> keys.mask(255)).count(1));
        NoiseKeys keys = after(other -> other.cells(9));
        edges.same("cells(9): K", 0, keys.count(2));
        edges.same("CHIPS with HELP", 0, keys.count(5));
        keys.chip(0x5a);
        edges.same("a CHIP of the same number has no HELP", -3, keys.reading(0, 0));
        keys = after(other -> other.mask(1));
        keys.mask(0);
        edges.same("the first MASK again: K", 0, keys.count(2));
        edges.same("CHIPS with HELP", 0, keys.count(5));
    }

    private static NoiseKeys after(ToIntFunction<NoiseKeys> call) {
        NoiseKeys keys = halves();
        call.applyAsInt(keys);
        return keys;
    }

    private void gone(String name, ToIntFunction<NoiseKeys> call) {
        NoiseKeys keys = after(call);
        edges.same(name + ": K", 0, keys.count(2));
        edges.same("distance()", 0, keys.distance());
        edges.same("KEY 0 is there", 0, keys.codeword(0));
        edges.same("KEY 1 is not", -1, keys.codeword(1));
        edges.same("CHIPS with HELP", 0, keys.count(5));
        edges.same("reading(0, 0)", -3, keys.reading(0, 0));
        edges.same("lasts(0, 0)", -3, keys.lasts(0, 0));
        edges.same("enrol(0, 1)", -1, keys.enrol(0, 1));
    }

    private void termKey() {
        edges.terms("With K ROWS a KEY is a number below 2^K: its CODEWORD: the sum of ROW i for each bit i of it.");
        int[] rows = {0x3001, 0x1802, 0x0c04, 0x0608, 0x0310, 0x01a0};
        NoiseKeys keys = new NoiseKeys();
        keys.cells(14);
        keys.chip(0);
        for (int k = 0; k <= 6; k++) {
            for (int key = 0; key < 1 << k; key++) {
                edges.same("CODEWORD of " + key, sum(rows, key), keys.codeword(key));
            }
            edges.same("2^K", -1, keys.codeword(1 << k));
            edges.same("the greatest KEY is drawn", sum(rows, (1 << k) - 1), keys.enrol(0, (1 << k) - 1));
            edges.same("2^K is not drawn", -1, keys.enrol(0, 1 << k));
            if (k < 6) {
                keys.row(rows[k]);
            }
        }
    }

    private void termDistance() {
        edges.terms("DISTANCE of THE CODE: the fewest bits of a CODEWORD that is not 0 (0 without ROWS).");
        edges.same("without ROWS", 0, new NoiseKeys().distance());
        for (int n = 4; n <= 14; n++) {
            NoiseKeys keys = new NoiseKeys();
            keys.cells(n);
            keys.row((1 << n) - 1);
            edges.same("all of " + n + " CELLS", n, keys.distance());
            keys.row((1 << n) - 2);
            edges.same("their sum is one CELL", 1, keys.distance());
        }
        NoiseKeys keys = new NoiseKeys();
        keys.cells(7);
        int[] rows = {0x07, 0x19, 0x2a, 0x4b};
        for (int row : rows) {
            keys.row(row);
            edges.same("with ROW " + row, 3, keys.distance());
        }
        edges.same("six ROWS of one CELL", 1, sixRows().distance());
    }

    private void termMended() {
        edges.terms("MENDED: of a WORD: the CODEWORD that differs from it in the fewest CELLS, of several the one of "
            + "the least KEY.");
        NoiseKeys keys = halves();
        for (int low = 0; low < 16; low++) {
            for (int high = 0; high < 16; high++) {
                // Two of four are as near to 0 as to 1, of which 0 makes the lesser KEY.
                int due = (Integer.bitCount(low) > 2 ? 1 : 0) + (Integer.bitCount(high) > 2 ? 2 : 0);
                edges.same("mended(" + (high << 4 | low) + ")", due, keys.mended(high << 4 | low));
            }
        }
        keys = new NoiseKeys();
        keys.row(0xff);
        keys.row(0xf0);
        edges.same("KEY 2 alone", 2, keys.mended(0xf1));
        edges.same("KEYS 1, 2 alike near, 0, 3 far", 1, keys.mended(0xf3));
        edges.same("KEYS 0, 3 alike near", 0, keys.mended(0x03));
        edges.same("without ROWS", 0, new NoiseKeys().mended(255));
    }

    private void termClear() {
        edges.terms("CLEAR: there is but one.");
        NoiseKeys keys = halves();
        for (int low = 0; low < 16; low++) {
            for (int high = 0; high < 16; high++) {
                boolean due = Integer.bitCount(low) != 2 && Integer.bitCount(high) != 2;
                edges.same("clear(" + (high << 4 | low) + ")", due ? 1 : 0, keys.clear(high << 4 | low));
            }
        }
        edges.same("without ROWS", 1, new NoiseKeys().clear(255));
        keys = new NoiseKeys();
        keys.mask(255);
        edges.same("all masked", 1, keys.clear(255));
        keys = new NoiseKeys();
        for (int i = 0; i < 6; i++) {
            keys.row(1 << i);
        }
        edges.same("KEY 63 alone", 1, keys.clear(0xff));
        keys = new NoiseKeys();
        for (int i = 0; i < 6; i++) {
            keys.row(i == 5 ? 0x60 : 1 << i);
        }
        edges.same("KEYS 31, 63", 0, keys.clear(0x3f));
    }

    private void termHelp() {
        edges.terms("HELP of a CHIP: a KEY is drawn (told), HELP is its NOMINAL (without masked CELLS) and the KEY's "
            + "CODEWORD, exclusive or.");
        NoiseKeys keys = new NoiseKeys();
        keys.mask(0x81);
        keys.row(0xff);
        keys.row(0x0e);
        int[] words = {0, 0x7e, 0x0e, 0x70};
        keys.chip(0xff);
        keys.chip(0);
        keys.chip(0x81);
        for (int key = 0; key < 4; key++) {
            edges.same("of 0xff and KEY " + key, 0x7e ^ words[key], keys.enrol(0, key));
            edges.same("of 0 and KEY " + key, words[key], keys.enrol(1, key));
            edges.same("of masked CELLS and KEY " + key, words[key], keys.enrol(2, key));
        }
        edges.same("all have HELP", 3, keys.count(5));
        keys = new NoiseKeys();
        keys.chip(0xa5);
        edges.same("without ROWS: KEY 0", 0xa5, keys.enrol(0, 0));
    }

    private void termReading() {
        edges.terms("A READING (a WORD) with the HELP: what is MENDED of the READING and HELP, exclusive or: its KEY.");
        int[] help = {0x5a, 0x55, 0xaa, 0xa5};
        for (int key = 0; key < 4; key++) {
            NoiseKeys keys = halves();
            edges.same("HELP", help[key], keys.enrol(0, key));
            for (int word = 0; word < 256; word += 3) {
                int read = keys.reading(0, word);
                edges.same("reading(0, " + word + ")", keys.mended(word ^ help[key]), read);
            }
            edges.same("the NOMINAL", key, keys.reading(0, 0x5a));
            edges.same("all flipped", 3 - key, keys.reading(0, 0xa5));
        }
        NoiseKeys keys = halves();
        keys.enrol(1, 1);
        edges.same("each CHIP has its own HELP", 2, keys.reading(0, 0x5a));
        edges.same("each CHIP has its own HELP", 1, keys.reading(1, 0x3c));
    }

    private void row() {
        edges.promise(8, "A ROW more: K.");
        NoiseKeys keys = new NoiseKeys();
        for (int k = 1; k <= 6; k++) {
            edges.same("K", k, keys.row(1 << k + 1));
            edges.same("count(2)", k, keys.count(2));
        }
        keys = new NoiseKeys();
        edges.same("the greatest WORD", 1, keys.row(255));
        keys.cells(4);
        for (int k = 1; k <= 4; k++) {
            edges.same("as many as CELLS", k, keys.row(1 << k - 1));
        }
        edges.same("all WORDS are sums", -3, keys.row(15));
    }

    private void rowRefused() {
        edges.promise(8, "-1 other bits;");
        edges.refused(-1, EdgesOfCode::halves, "row(256)", keys -> keys.row(256));
        edges.refused(-1, EdgesOfCode::halves, "row(0x10f)", keys -> keys.row(0x10f));
        edges.refused(-1, EdgesOfCode::halves, "row(-1)", keys -> keys.row(-1));
        edges.refused(-1, EdgesOfCode::halves, "row(TINY)", keys -> keys.row(TINY));
        edges.refused(-1, EdgesOfCode::halves, "row(HUGE)", keys -> keys.row(HUGE));
        edges.refused(-1, EdgesOfCode::sixRows, "row(256) of six", keys -> keys.row(256));
        edges.promise(8, "-3 it is a sum of those there (0 is, too);");
        edges.refused(-3, NoiseKeys::new, "row(0) without ROWS", keys -> keys.row(0));
        edges.refused(-3, EdgesOfCode::halves, "row(0)", keys -> keys.row(0));
        edges.refused(-3, EdgesOfCode::halves, "one there", keys -> keys.row(0x0f));
        edges.refused(-3, EdgesOfCode::halves, "a sum of two", keys -> keys.row(0xff));
        edges.refused(-3, EdgesOfCode::sixRows, "a sum of six, no room", keys -> keys.row(63));
        edges.refused(-3, EdgesOfCode::sixRows, "0, no room", keys -> keys.row(0));
        edges.promise(8, "-6 there are 6.");
        edges.refused(-6, EdgesOfCode::sixRows, "a seventh", keys -> keys.row(64));
        edges.refused(-6, EdgesOfCode::sixRows, "a seventh", keys -> keys.row(255));
    }

    private void rowTakesHelp() {
        edges.promise(8, "(HELP of CHIPS goes.)");
        NoiseKeys keys = halves();
        keys.enrol(1, 0);
        edges.same("CHIPS with HELP", 2, keys.count(5));
        edges.same("a ROW", 3, keys.row(0x33));
        edges.same("CHIPS with HELP", 0, keys.count(5));
        edges.same("reading(0, 0)", -3, keys.reading(0, 0));
        edges.same("reading(1, 0)", -3, keys.reading(1, 0));
        edges.same("CHIPS stay", 2, keys.count(1));
        edges.same("KEY 7 is drawn", 0x5a ^ 0xff ^ 0x33, keys.enrol(0, 7));
        edges.same("CHIPS with HELP", 1, keys.count(5));
    }

    private void distance() {
        edges.promise(9, "DISTANCE.");
        NoiseKeys keys = halves();
        edges.same("distance()", 4, keys.distance());
        keys.row(0x11);
        edges.same("with 0x11", 2, keys.distance());
        keys.row(0x10);
        edges.same("with 0x10", 1, keys.distance());
        edges.untouched("4", EdgesOfCode::halves, "distance()", other -> other.distance());
    }

    private void codeword() {
        edges.promise(10, "CODEWORD of a KEY.");
        int[] words = {0, 0x0f, 0xf0, 0xff};
        NoiseKeys keys = halves();
        for (int key = 0; key < 4; key++) {
            edges.same("codeword(" + key + ")", words[key], keys.codeword(key));
        }
        edges.promise(10, "-1");
        edges.refused(-1, EdgesOfCode::halves, "codeword(4)", other -> other.codeword(4));
        edges.refused(-1, EdgesOfCode::halves, "codeword(-1)", other -> other.codeword(-1));
        edges.refused(-1, EdgesOfCode::halves, "codeword(TINY)", other -> other.codeword(TINY));
        edges.refused(-1, EdgesOfCode::halves, "codeword(HUGE)", other -> other.codeword(HUGE));
        edges.refused(-1, EdgesOfCode::sixRows, "codeword(64)", other -> other.codeword(64));
        edges.refused(-1, NoiseKeys::new, "codeword(1) without ROWS", other -> other.codeword(1));
    }

    private void mended() {
        edges.promise(11, "The KEY of what is MENDED of a WORD.");
        NoiseKeys keys = halves();
        edges.same("mended(0)", 0, keys.mended(0));
        edges.same("mended(255)", 3, keys.mended(255));
        edges.same("mended(0xe0)", 2, keys.mended(0xe0));
        edges.same("six ROWS", 63, sixRows().mended(255));
        edges.promise(11, "-1 other bits.");
        edges.refused(-1, EdgesOfCode::halves, "mended(256)", other -> other.mended(256));
        edges.refused(-1, EdgesOfCode::halves, "mended(-1)", other -> other.mended(-1));
        edges.refused(-1, EdgesOfCode::halves, "mended(TINY)", other -> other.mended(TINY));
        edges.refused(-1, EdgesOfCode::halves, "mended(HUGE)", other -> other.mended(HUGE));
    }

    private void clear() {
        edges.promise(12, "Whether it is CLEAR: 1, 0.");
        NoiseKeys keys = halves();
        edges.same("clear(0x01)", 1, keys.clear(0x01));
        edges.same("clear(0x03)", 0, keys.clear(0x03));
        edges.same("clear(0x07)", 1, keys.clear(0x07));
        edges.promise(12, "-1");
        edges.refused(-1, EdgesOfCode::halves, "clear(256)", other -> other.clear(256));
        edges.refused(-1, EdgesOfCode::halves, "clear(-1)", other -> other.clear(-1));
        edges.refused(-1, EdgesOfCode::halves, "clear(TINY)", other -> other.clear(TINY));
        edges.refused(-1, EdgesOfCode::halves, "clear(HUGE)", other -> other.clear(HUGE));
    }

    private void enrol() {
        edges.promise(13, "A KEY is drawn for a CHIP: HELP.");
        NoiseKeys keys = halves();
        edges.same("the first KEY", 0x3c, keys.enrol(1, 0));
        edges.same("the last KEY, anew", 0xc3, keys.enrol(1, 3));
        edges.same("what is read", 3, keys.reading(1, 0x3c));
        edges.same("CHIPS with HELP", 2, keys.count(5));
        edges.promise(13, "-1");
        edges.refused(-1, NoiseKeys::new, "no CHIPS", other -> other.enrol(0, 0));
        edges.refused(-1, EdgesOfCode::halves, "enrol(2, 0)", other -> other.enrol(2, 0));
        edges.refused(-1, EdgesOfCode::halves, "enrol(-1, 0)", other -> other.enrol(-1, 0));
        edges.refused(-1, EdgesOfCode::halves, "enrol(0, 4)", other -> other.enrol(0, 4));
        edges.refused(-1, EdgesOfCode::halves, "enrol(1, -1)", other -> other.enrol(1, -1));
        edges.refused(-1, EdgesOfCode::halves, "enrol(HUGE, TINY)", other -> other.enrol(HUGE, TINY));
        edges.refused(-1, EdgesOfCode::halves, "enrol(0, HUGE)", other -> other.enrol(0, HUGE));
        edges.refused(-1, EdgesOfCode::sixRows, "enrol(0, 64)", other -> other.enrol(0, 64));
    }

    private void reading() {
        edges.promise(14, "The KEY that a READING gives with a CHIP's HELP.");
        NoiseKeys keys = sixRows();
        edges.same("CHIP 0", 63, keys.reading(0, 0x5a));
        edges.same("CHIP 1", 0, keys.reading(1, 0x3c));
        edges.same("a flip", 31, keys.reading(0, 0x5a ^ 0x20));
        edges.same("a flip of no ROW's CELL", 63, keys.reading(0, 0x5a ^ 0x80));
        edges.promise(14, "-1");
        edges.refused(-1, NoiseKeys::new, "no CHIPS", other -> other.reading(0, 0));
        edges.refused(-1, EdgesOfCode::halves, "reading(2, 0)", other -> other.reading(2, 0));
        edges.refused(-1, EdgesOfCode::halves, "reading(-1, 0)", other -> other.reading(-1, 0));
        edges.refused(-1, EdgesOfCode::halves, "reading(0, 256)", other -> other.reading(0, 256));
        edges.refused(-1, EdgesOfCode::halves, "reading(0, -1)", other -> other.reading(0, -1));
        edges.refused(-1, EdgesOfCode::halves, "reading(1, 256), without HELP", other -> other.reading(1, 256));
        edges.refused(-1, EdgesOfCode::halves, "reading(TINY, HUGE)", other -> other.reading(TINY, HUGE));
        edges.promise(14, "-3 it has none.");
        edges.refused(-3, EdgesOfCode::halves, "reading(1, 0)", other -> other.reading(1, 0));
        edges.refused(-3, EdgesOfCode::halves, "reading(1, 255)", other -> other.reading(1, 255));
    }
}
