/** Part III of the terms from LEAN on, and promises 18 to 22. */
final class EdgesOfGuess {
    private static final int HUGE = Integer.MAX_VALUE;
    private static final int TINY = Integer.MIN_VALUE;
    private static final String ARGUMENT = "throws.IllegalArgumentException";

    private final Edges edges;

    EdgesOfGuess(Edges edges) {
        this.edges = edges;
    }

    void run() {
        termLean();
        termGuess();
        termBestGuess();
        termLeak();
        termEvenBits();
        termExpected();
        guess();
        weight();
        leak();
        even();
        evenRefused();
        expected();
    }

    /** CELL 2 is masked; CODEWORDS 0, 3, 24, 27. */
    private static NoiseKeys leaning() {
        NoiseKeys keys = new NoiseKeys();
        keys.cells(5);
        int[] leans = {7, 6, 7, 2, 1};
        for (int cell = 0; cell < 5; cell++) {
            keys.set(cell, 2, leans[cell]);
        }
        keys.mask(4);
        keys.row(3);
        keys.row(24);
        return keys;
    }

    private void termLean() {
        edges.terms("LEAN of a CELL: in eighths (1 .. 7; 4 at first) that its NOMINAL is 1, each CELL for itself, "
            + "over all CHIPS that might be.");
        NoiseKeys keys = new NoiseKeys();
        keys.cells(4);
        edges.same("4 at first", 4 * 4 * 4 * 4, keys.weight(9, false));
        for (int lean = 1; lean <= 7; lean++) {
            keys.set(3, 2, lean);
            edges.same("a 1 of LEAN " + lean, lean * 64, keys.weight(8, false));
            edges.same("a 0 of LEAN " + lean, (8 - lean) * 64, keys.weight(7, false));
        }
        keys.set(0, 2, 1);
        keys.set(1, 2, 2);
        keys.set(2, 2, 5);
        long all = 0;
        for (int nominal = 0; nominal < 16; nominal++) {
            all += keys.weight(nominal, false);
        }
        edges.same("all CHIPS that might be", 4096, all);
        edges.same("each CELL for itself", 1 * 6 * 5 * 7, keys.weight(13, false));
    }

    private void termGuess() {
        edges.terms("GUESS of HELP: of all KEYS, each as likely as another one ahead: with a HELP w the KEY k is as "
            + "likely as a NOMINAL that is w and k's CODEWORD, exclusive or: the product over CELLS not masked of "
            + "LEAN (1 there) or 8 less LEAN.");
        NoiseKeys keys = leaning();
        // CELLS 0 and 1 are 1, 3 and 4 are 0 most often: HELP tells which CODEWORD makes them so.
        int[] helps = {3, 0, 27, 24};
        for (int key = 0; key < 4; key++) {
            edges.same("HELP " + helps[key], key, keys.guess(helps[key]));
            edges.same("its WEIGHT", 7 * 6 * 6 * 7, keys.weight(helps[key], false));
            edges.same("a masked CELL tells nothing", key, keys.guess(helps[key] | 4));
            edges.same("nor does it weigh", 7 * 6 * 6 * 7, keys.weight(helps[key] | 4, false));
        }
    }

    private void termBestGuess() {
        edges.terms("BEST GUESS: the likeliest KEY, of several the least; its WEIGHT (that product), and ALL, the sum "
            + "over all KEYS.");
        NoiseKeys keys = leaning();
        edges.same("ALL of 3", (42 + 2) * (42 + 2), keys.weight(3, true));
        edges.same("ALL of 1", (7 * 2 + 1 * 6) * (42 + 2), keys.weight(1, true));
        keys.set(0, 2, 6);
        keys.set(3, 2, 1);
        edges.same("KEYS 0, 1, 2, 3 alike", 0, keys.guess(2 | 8));
        edges.same("their WEIGHT", 6 * 2 * 7 * 1, keys.weight(2 | 8, false));
        edges.same("ALL", 4 * 6 * 2 * 7 * 1, keys.weight(2 | 8, true));
        edges.same("KEYS 2, 3 alike", 2, keys.guess(2 | 24));
        edges.same("KEYS 1, 3 alike", 1, keys.guess(8));
        keys.mask(31);
        edges.same("all masked", 0, keys.guess(31));
        edges.same("all masked, WEIGHT", 1, keys.weight(31, false));
        edges.same("all masked, ALL", 1, keys.weight(31, true));
    }

    private void termLeak() {
        edges.terms("LEAK: M less K (bits that HELP tells of the NOMINAL).");
        NoiseKeys keys = new NoiseKeys();
        keys.cells(14);
        edges.same("M 14, K 0", 14, keys.leak());
        for (int k = 1; k <= 6; k++) {
            keys.row(1 << k);
            edges.same("M 14, K " + k, 14 - k, keys.leak());
        }
        keys.cells(4);
        for (int k = 1; k <= 4; k++) {
            keys.row(1 << k - 1);
            edges.same("M 4, K " + k, 4 - k, keys.leak());
        }
        keys.mask(15);
        edges.same("M 0, K 0", 0, keys.leak());
    }

    private void termEvenBits() {
        edges.terms("EVEN BITS of a WORD: its CELLS that are not masked, in order, in twos: 0 then 1 gives a 0, 1 "
            + "then 0 a 1, alike ones nothing (a last one alone nothing); a row of bits.");
        int[] many = {0, 1, 1, 0};
        int[] bits = {0, 1, 0, 0};
        for (int word = 0; word < 16; word++) {
            NoiseKeys keys = new NoiseKeys();
            keys.cells(4);
            int first = word & 3;
            int second = word >> 2;
            edges.same("how many of " + word, many[first] + many[second], keys.even(word, 0));
            edges.same("of " + word, (bits[first] << many[second]) + bits[second], keys.even(word, 1));
            keys.mask(4);
            edges.same("CELL 3 is alone, " + word, many[first], keys.even(word, 0));
            keys.mask(6);
            int apart = word & 1 | word >> 2 & 2;
            edges.same("CELLS 0, 3 of " + word, many[apart], keys.even(word, 0));
            edges.same("CELLS 0, 3 of " + word, bits[apart], keys.even(word, 1));
            keys.mask(7);
            edges.same("one is left", 0, keys.even(word, 0));
            keys.mask(15);
            edges.same("none is left", 0, keys.even(word, 0) + keys.even(word, 1));
        }
        NoiseKeys keys = new NoiseKeys();
        keys.cells(13);
        edges.same("a last one alone", 6, keys.even(0x1555, 0));
        edges.same("a last one alone", 63, keys.even(0x1555, 1));
    }

    private void termExpected() {
        edges.terms("EXPECTED: with LEANS: how many of 64 for each two, added: LEAN of one times (8 less LEAN) of the "
            + "other, and turned about.");
        for (int one = 1; one <= 7; one++) {
            for (int other = 1; other <= 7; other++) {
                NoiseKeys keys = new NoiseKeys();
                keys.cells(4);
                keys.set(0, 2, one);
                keys.set(1, 2, other);
                long due = one * (8 - other) + other * (8 - one);
                edges.same("LEANS " + one + ", " + other, due + 32, keys.expected());
                keys.mask(4);
                edges.same("CELL 3 is alone", due, keys.expected());
            }
        }
    }

    private void guess() {
        edges.promise(18, "BEST GUESS of a HELP: the KEY.");
        edges.same("HELP 0", 1, leaning().guess(0));
        edges.same("HELP 31", 2, leaning().guess(31));
        edges.same("without ROWS", 0, new NoiseKeys().guess(255));
        NoiseKeys keys = new NoiseKeys();
        for (int i = 0; i < 6; i++) {
            keys.row(1 << i);
            keys.set(i, 2, 5);
        }
        edges.same("the greatest KEY", 63, keys.guess(0));
        edges.promise(18, "-1 other bits.");
        edges.refused(-1, EdgesOfGuess::leaning, "guess(32)", other -> other.guess(32));
        edges.refused(-1, EdgesOfGuess::leaning, "guess(-1)", other -> other.guess(-1));
        edges.refused(-1, EdgesOfGuess::leaning, "guess(TINY)", other -> other.guess(TINY));
        edges.refused(-1, EdgesOfGuess::leaning, "guess(HUGE)", other -> other.guess(HUGE));
    }

    private void weight() {
        edges.promise(19, "Its WEIGHT (sum false), or ALL (true).");
        NoiseKeys keys = new NoiseKeys();
        keys.cells(14);
        for (int cell = 0; cell < 14; cell++) {
            keys.set(cell, 2, 7);
        }
        edges.same("the greatest", 678223072849L, keys.weight(16383, false));
        edges.same("the least", 1, keys.weight(0, false));
        edges.same("ALL without ROWS", 1, keys.weight(0, true));
        for (int i = 0; i < 6; i++) {
            keys.row(1 << i);
        }
        edges.same("WEIGHT of six ROWS", 678223072849L, keys.weight(16383, false));
        edges.same("ALL of six ROWS", 262144L * 5764801L, keys.weight(16383, true));
        edges.promise(19, "IllegalArgumentException: other bits.");
        edges.untouched(ARGUMENT, EdgesOfGuess::leaning, "weight(32, false)", other -> other.weight(32, false));
        edges.untouched(ARGUMENT, EdgesOfGuess::leaning, "weight(32, true)", other -> other.weight(32, true));
        edges.untouched(ARGUMENT, EdgesOfGuess::leaning, "weight(-1, false)", other -> other.weight(-1, false));
        edges.untouched(ARGUMENT, EdgesOfGuess::leaning, "weight(TINY, true)", other -> other.weight(TINY, true));
        edges.untouched(ARGUMENT, EdgesOfGuess::leaning, "weight(HUGE, true)", other -> other.weight(HUGE, true));
    }

    private void leak() {
        edges.promise(20, "LEAK.");
        edges.same("at first", 8, new NoiseKeys().leak());
        edges.same("five CELLS less a masked one and two ROWS", 2, leaning().leak());
    }

    private void even() {
        edges.promise(21, "EVEN BITS of a WORD: how many (what 0), as a number, the first one the highest (1).");
        NoiseKeys keys = new NoiseKeys();
        keys.cells(14);
        edges.same("none: how many", 0, keys.even(0, 0));
        edges.same("none", 0, keys.even(0, 1));
        edges.same("all alike: how many", 0, keys.even(16383, 0));
        edges.same("seven zeros: how many", 7, keys.even(0x2aaa, 0));
        edges.same("seven zeros", 0, keys.even(0x2aaa, 1));
        edges.same("seven ones: how many", 7, keys.even(0x1555, 0));
        edges.same("seven ones", 127, keys.even(0x1555, 1));
        edges.same("the first one a 1", 64, keys.even(0x2aa9, 1));
        edges.same("the last one a 1", 1, keys.even(0x1aaa, 1));
        edges.same("the first one missing: how many", 6, keys.even(0x2aa8, 0));
        edges.same("the last one missing", 63, keys.even(0x0555, 1));
        edges.same("one between missing", 63, keys.even(0x1515, 1));
    }

    private void evenRefused() {
        edges.promise(21, "-1");
        edges.refused(-1, EdgesOfGuess::leaning, "even(32, 0)", keys -> keys.even(32, 0));
        edges.refused(-1, EdgesOfGuess::leaning, "even(-1, 1)", keys -> keys.even(-1, 1));
        edges.refused(-1, EdgesOfGuess::leaning, "even(TINY, 2)", keys -> keys.even(TINY, 2));
        edges.refused(-1, EdgesOfGuess::leaning, "even(HUGE, -1)", keys -> keys.even(HUGE, -1));
        edges.promise(21, "-2");
        edges.refused(-2, EdgesOfGuess::leaning, "even(0, 2)", keys -> keys.even(0, 2));
        edges.refused(-2, EdgesOfGuess::leaning, "even(31, -1)", keys -> keys.even(31, -1));
        edges.refused(-2, EdgesOfGuess::leaning, "even(0, HUGE)", keys -> keys.even(0, HUGE));
        edges.refused(-2, EdgesOfGuess::leaning, "even(0, TINY)", keys -> keys.even(0, TINY));
    }

    private void expected() {
        edges.promise(22, "EXPECTED, in parts of 64.");
        edges.same("at first", 4 * 32, new NoiseKeys().expected());
        NoiseKeys keys = new NoiseKeys();
        keys.cells(14);
        for (int cell = 0; cell < 14; cell++) {
            keys.set(cell, 2, cell % 2 == 0 ? 1 : 7);
        }
        edges.same("the most", 7 * 50, keys.expected());
        keys.mask(1);
        edges.same("in other twos, the last one alone", 6 * 50, keys.expected());
        for (int cell = 0; cell < 14; cell++) {
            keys.set(cell, 2, 1);
        }
        keys.mask(0);
        edges.same("the fewest of seven twos", 7 * 14, keys.expected());
        keys.mask(16383);
        edges.same("all masked", 0, keys.expected());
        keys.mask(16382);
        edges.same("one left", 0, keys.expected());
    }
}
