/**
 * Keys out of noise: chips whose cells answer alike but for flips, a code that mends what was read, and what an
 * outsider may learn of it. Words in capitals are those of the document.
 */
public final class NoiseKeys {
    private static final int NOBODY = -1;
    private static final int OTHER = -2;
    private static final int STATE = -3;
    private static final int BELOW = -4;
    private static final int ROOM = -6;
    /** An answer like any other: it does not count among the REFUSALS. */
    private static final int NONE = -9;

    private static final int OLDEST = 40;
    private static final int WHOLE = 8;

    private final Cells ownCells = new Cells();
    private final Code ownCode = new Code();
    private final Chips ownChips = new Chips();
    private final Pairs ownPairs = new Pairs();
    private final Flips flips = new Flips(ownCells, ownCode);
    private final int[] refusals = new int[7];

    public NoiseKeys() {
    }

    public int cells(int n) {
        if (n < Cells.FEWEST) {
            return refuse(BELOW);
        }
        if (n > Cells.MOST) {
            return refuse(ROOM);
        }
        int before = ownCells.n;
        ownCells.n = n;
        ownCells.mask = 0;
        ownCode.dropRows();
        ownChips.dropAll();
        return before;
    }

    public int chip(int nominal) {
        if (!ownCells.isWord(nominal)) {
            return refuse(NOBODY);
        }
        if (ownChips.many >= Chips.MOST) {
            return refuse(ROOM);
        }
        return ownChips.add(nominal);
    }

    public int set(int cell, int what, int v) {
        if (cell < 0 || cell >= Cells.MOST) {
            return refuse(NOBODY);
        }
        if (what < Cells.CHANCE || what > Cells.LEAN) {
            return refuse(OTHER);
        }
        if (v < Cells.leastOf(what)) {
            return refuse(BELOW);
        }
        if (v > Cells.greatestOf(what)) {
            return refuse(ROOM);
        }
        return ownCells.change(cell, what, v);
    }

    public int chance(int cell, int age) {
        if (!ownCells.isCell(cell)) {
            return refuse(NOBODY);
        }
        if (age < 0) {
            return refuse(BELOW);
        }
        if (age > OLDEST) {
            return refuse(ROOM);
        }
        return ownCells.isMasked(cell) ? 0 : ownCells.agedChance(cell, age);
    }

    public int mask(int set) {
        if (!ownCells.isWord(set)) {
            return refuse(NOBODY);
        }
        int before = ownCells.mask;
        leaveOut(set);
        return before;
    }

    public int maskBy(int age, int most) {
        if (age < 0 || most < 0) {
            return refuse(BELOW);
        }
        if (age > OLDEST || most > Cells.MOST_CHANCE) {
            return refuse(ROOM);
        }
        leaveOut(ownCells.likelierThan(most, age));
        return ownCells.mask;
    }

    public int row(int word) {
        if (!ownCells.isWord(word)) {
            return refuse(NOBODY);
        }
        int open = ownCells.open(word);
        if (ownCode.holds(open)) {
            return refuse(STATE);
        }
        if (ownCode.rows >= Code.MOST_ROWS) {
            return refuse(ROOM);
        }
        ownCode.addRow(open);
        ownChips.dropHelp();
        return ownCode.rows;
    }

    public int distance() {
        return ownCode.fewestBits();
    }

    public int codeword(int key) {
        return ownCode.isKey(key) ? ownCode.words[key] : refuse(NOBODY);
    }

    public int mended(int word) {
        return ownCells.isWord(word) ? ownCode.nearestKey(ownCells.open(word)) : refuse(NOBODY);
    }

    public int clear(int word) {
        if (!ownCells.isWord(word)) {
            return refuse(NOBODY);
        }
        return ownCode.hasOneNearest(ownCells.open(word)) ? 1 : 0;
    }

    public int enrol(int chip, int key) {
        if (!ownChips.isChip(chip) || !ownCode.isKey(key)) {
            return refuse(NOBODY);
        }
        int help = ownCells.open(ownChips.nominal[chip]) ^ ownCode.words[key];
        ownChips.giveHelp(chip, help, key);
        return help;
    }

    public int reading(int chip, int word) {
        if (!ownChips.isChip(chip) || !ownCells.isWord(word)) {
            return refuse(NOBODY);
        }
        if (!ownChips.helped[chip]) {
            return refuse(STATE);
        }
        return ownCode.nearestKey(ownCells.open(word) ^ ownChips.help[chip]);
    }

    public long fail(int chip, int age) throws IllegalArgumentException, IllegalStateException {
        if (!ownChips.isChip(chip) || age < 0 || age > OLDEST) {
            throw new IllegalArgumentException("no such chip or age");
        }
        if (!ownChips.helped[chip]) {
            throw new IllegalStateException("the chip has no help");
        }
        return flips.harmful(ownChips.key[chip], age);
    }

    public long all() {
        return ownCells.allWays();
    }

    public int lasts(int chip, int eighths) {
        if (!ownChips.isChip(chip)) {
            return refuse(NOBODY);
        }
        if (!ownChips.helped[chip]) {
            return refuse(STATE);
        }
        if (eighths < 0) {
            return refuse(BELOW);
        }
        if (eighths > WHOLE) {
            return refuse(ROOM);
        }
        return firstAgeAbove(eighths, ownChips.key[chip]);
    }

    public int guess(int help) {
        return ownCells.isWord(help) ? likeliestKey(help) : refuse(NOBODY);
    }

    public long weight(int help, boolean sum) throws IllegalArgumentException {
        if (!ownCells.isWord(help)) {
            throw new IllegalArgumentException("bits of cells that there are not");
        }
        return sum ? waysOfAllKeys(help) : waysOfKey(likeliestKey(help), help);
    }

    public int leak() {
        return ownCells.openCells() - ownCode.rows;
    }

    public int even(int word, int what) {
        if (!ownCells.isWord(word)) {
            return refuse(NOBODY);
        }
        if (what != 0 && what != 1) {
            return refuse(OTHER);
        }
        int led = ownCells.evenBitsLedByOne(word);
        int lead = Integer.highestOneBit(led);
        return what == 0 ? Integer.numberOfTrailingZeros(lead) : led - lead;
    }

    public int expected() {
        return ownCells.expectedEvenBits();
    }

    public int pair(int question, int answer) {
        if (!Pairs.isQuestion(question) || !Pairs.isAnswer(answer)) {
            return refuse(NOBODY);
        }
        if (ownPairs.seen[question] && ownPairs.answer[question] != answer) {
            return refuse(STATE);
        }
        ownPairs.keep(question, answer);
        return ownPairs.many;
    }

    public int planes() {
        ownPairs.survey();
        return ownPairs.planes;
    }

    public int plane(int what) {
        if (what < 0 || what >= Pairs.PARTS) {
            return refuse(OTHER);
        }
        ownPairs.survey();
        return ownPairs.planes == 0 ? NONE : ownPairs.first[what] + 10;
    }

    public int foretold(int question) {
        return Pairs.isQuestion(question) ? ownPairs.foretell(question) : refuse(NOBODY);
    }

    public int next() {
        int question = ownPairs.halvingQuestion();
        return question < 0 ? NONE : question;
    }

    public int check(int question, int answer) {
        if (!Pairs.isQuestion(question) || !Pairs.isAnswer(answer)) {
            return refuse(NOBODY);
        }
        if (!ownPairs.seen[question] || ownPairs.used[question]) {
            return refuse(STATE);
        }
        ownPairs.used[question] = true;
        return ownPairs.answer[question] == answer ? 1 : 0;
    }

    public int whose(int word) {
        if (!ownCells.isWord(word)) {
            return refuse(NOBODY);
        }
        int chip = ownChips.nearest(word, ownCells.openSet());
        return chip < 0 ? NONE : chip;
    }

    public int sure(int word) {
        if (!ownCells.isWord(word)) {
            return refuse(NOBODY);
        }
        return ownChips.hasLoneNearest(word, ownCells.openSet()) ? 1 : 0;
    }

    public int apart() {
        return ownChips.many < 2 ? NONE : ownChips.fewestApart(ownCells.openSet());
    }

    public int odd(int cell) {
        return ownCells.isCell(cell) ? ownChips.onesAt(cell) : refuse(NOBODY);
    }

    public int count(int what) {
        switch (what) {
            case 0:
                return ownCells.n;
            case 1:
                return ownChips.many;
            case 2:
                return ownCode.rows;
            case 3:
                return ownCells.openCells();
            case 4:
                return ownCells.mask;
            case 5:
                return ownChips.withHelp();
            case 6:
                return ownPairs.many;
            case 7:
                return ownPairs.usedOnes();
            default:
                return what > 10 && what < 10 + refusals.length ? refusals[what - 10] : NONE;
        }
    }

    private int refuse(int number) {
        if (number < 0 && number > -refusals.length) {
            refusals[-number]++;
        }
        return number;
    }

    private void leaveOut(int set) {
        if (set != ownCells.mask) {
            ownCells.mask = set;
            ownCode.dropRows();
            ownChips.dropHelp();
        }
    }

    /** The ages may be halved, as no FAIL is less at a greater AGE: see Flips. */
    private int firstAgeAbove(int eighths, int key) {
        if (!failsAbove(eighths, key, OLDEST)) {
            return NONE;
        }
        int low = 0;
        int high = OLDEST;
        for (int halvings = 0; halvings < OLDEST && low < high; halvings++) {
            int middle = (low + high) / 2;
            if (failsAbove(eighths, key, middle)) {
                high = middle;
            } else {
                low = middle + 1;
            }
        }
        return low;
    }

    private boolean failsAbove(int eighths, int key, int age) {
        return flips.harmful(key, age) * WHOLE > ownCells.allWays() * eighths;
    }

    private int likeliestKey(int help) {
        int best = 0;
        long most = waysOfKey(0, help);
        for (int key = 1; key < ownCode.keys(); key++) {
            long ways = waysOfKey(key, help);
            if (ways > most) {
                most = ways;
                best = key;
            }
        }
        return best;
    }

    private long waysOfAllKeys(int help) {
        long sum = 0;
        for (int key = 0; key < ownCode.keys(); key++) {
            sum += waysOfKey(key, help);
        }
        return sum;
    }

    private long waysOfKey(int key, int help) {
        return ownCode.isKey(key) ? ownCells.waysToBe(help ^ ownCode.words[key]) : 0;
    }

    /** The CELLS: how many there are, which are masked, and what was told of each. */
    private static final class Cells {
        static final int FEWEST = 4;
        static final int MOST = 14;
        static final int CHANCE = 0;
        static final int WEAR = 1;
        static final int LEAN = 2;
        static final int MOST_CHANCE = 4;

        int n = 8;
        int mask = 0;
        /** By what (CHANCE, WEAR, LEAN) and CELL: of all CELLS that may be, for it outlives a change of N. */
        private final int[][] told = new int[3][MOST];

        Cells() {
            for (int cell = 0; cell < MOST; cell++) {
                told[CHANCE][cell] = 1;
                told[LEAN][cell] = 4;
            }
        }

        static int leastOf(int what) {
            return what == LEAN ? 1 : 0;
        }

        static int greatestOf(int what) {
            return what == LEAN ? 7 : MOST_CHANCE;
        }

        int change(int cell, int what, int v) {
            int before = told[what][cell];
            told[what][cell] = v;
            return before;
        }

        boolean isCell(int cell) {
            return cell >= 0 && cell < n;
        }

        boolean isWord(int word) {
            return word >> n == 0;
        }

        boolean isMasked(int cell) {
            return (mask >> cell & 1) == 1;
        }

        int open(int word) {
            return word & ~mask;
        }

        int openSet() {
            return open((1 << n) - 1);
        }

        int openCells() {
            return Integer.bitCount(openSet());
        }

        /** 8^M. */
        long allWays() {
            return 1L << 3 * openCells();
        }

        int agedChance(int cell, int age) {
            return Math.min(MOST_CHANCE, told[CHANCE][cell] + told[WEAR][cell] * age / 10);
        }

        int likelierThan(int most, int age) {
            int set = 0;
            for (int cell = 0; cell < n; cell++) {
                if (agedChance(cell, age) > most) {
                    set |= 1 << cell;
                }
            }
            return set;
        }

        /** By LEANS: of all ways, those in which a NOMINAL is this one (masked CELLS aside). */
        long waysToBe(int nominal) {
            long ways = 1;
            for (int cell = 0; cell < n; cell++) {
                if (!isMasked(cell)) {
                    int lean = told[LEAN][cell];
                    ways *= (nominal >> cell & 1) == 1 ? lean : WHOLE - lean;
                }
            }
            return ways;
        }

        /** EVEN BITS behind a 1, by which zeros at their front are kept. */
        int evenBitsLedByOne(int word) {
            int bits = 1;
            for (int cell = 0; cell < n; cell++) {
                int mate = mateOf(cell);
                if (mate >= 0 && (word >> mate & 1) != (word >> cell & 1)) {
                    bits = bits << 1 | word >> mate & 1;
                }
            }
            return bits;
        }

        int expectedEvenBits() {
            int sum = 0;
            for (int cell = 0; cell < n; cell++) {
                int mate = mateOf(cell);
                if (mate >= 0) {
                    sum += expectedOfTwo(told[LEAN][mate], told[LEAN][cell]);
                }
            }
            return sum;
        }

        private static int expectedOfTwo(int lean, int otherLean) {
            return lean * (WHOLE - otherLean) + (WHOLE - lean) * otherLean;
        }

        /** The CELL ahead of this one with which it makes a two; -1 if it is masked, or the first of its two. */
        private int mateOf(int cell) {
            int ahead = open((1 << cell) - 1);
            boolean second = !isMasked(cell) && Integer.bitCount(ahead) % 2 == 1;
            return second ? 31 - Integer.numberOfLeadingZeros(ahead) : -1;
        }
    }

    /** THE CODE, with every CODEWORD kept, so that no call has to add up ROWS. */
    private static final class Code {
        static final int MOST_ROWS = 6;

        int rows = 0;
        /** By KEY; that of KEY 0 stays 0. */
        final int[] words = new int[1 << MOST_ROWS];

        int keys() {
            return 1 << rows;
        }

        boolean isKey(int key) {
            return key >= 0 && key < keys();
        }

        void dropRows() {
            rows = 0;
        }

        boolean holds(int word) {
            for (int key = 0; key < keys(); key++) {
                if (words[key] == word) {
                    return true;
                }
            }
            return false;
        }

        void addRow(int word) {
            if (rows < MOST_ROWS) {
                int half = keys();
                for (int key = 0; key < half; key++) {
                    words[half + key] = words[key] ^ word;
                }
                rows++;
            }
        }

        int fewestBits() {
            int fewest = 0;
            for (int key = 1; key < keys(); key++) {
                int bits = Integer.bitCount(words[key]);
                if (key == 1 || bits < fewest) {
                    fewest = bits;
                }
            }
            return fewest;
        }

        int nearestKey(int word) {
            int best = 0;
            int fewest = Integer.bitCount(words[0] ^ word);
            int end = keys();
            for (int key = 1; key < end; key++) {
                int bits = Integer.bitCount(words[key] ^ word);
                if (bits < fewest) {
                    fewest = bits;
                    best = key;
                }
            }
            return best;
        }

        boolean hasOneNearest(int word) {
            int nearest = nearestKey(word);
            int fewest = Integer.bitCount(words[nearest] ^ word);
            for (int key = nearest + 1; key < keys(); key++) {
                if (Integer.bitCount(words[key] ^ word) == fewest) {
                    return false;
                }
            }
            return true;
        }
    }

    /**
     * Sets of flips, and which of them harm a KEY.
     *
     * <p>Of a harmless set every part is harmless, too: with a flip less the word is nearer to the KEY's CODEWORD by
     * 1, and to no other one by more. So every set that holds a harmful one may be passed over; and where a CHANCE
     * grows, harmful sets never become less likely.
     */
    private static final class Flips {
        private final Cells cells;
        private final Code code;
        /** By CELL: of 8 ways, those in which it flips, and those in which it stays; a masked one has but 1 to stay. */
        private final int[] flip = new int[Cells.MOST];
        private final int[] stay = new int[Cells.MOST];

        Flips(Cells cells, Code code) {
            this.cells = cells;
            this.code = code;
        }

        /** FAIL, where this KEY was drawn. */
        long harmful(int key, int age) {
            growTo(age);
            int codeword = code.isKey(key) ? code.words[key] : 0;
            return cells.allWays() - harmless(this, key, 0, codeword, 1);
        }

        private void growTo(int age) {
            for (int cell = 0; cell < cells.n; cell++) {
                boolean masked = cells.isMasked(cell);
                int chance = cells.agedChance(cell, age);
                flip[cell] = masked ? 0 : chance;
                stay[cell] = masked ? 1 : WHOLE - chance;
            }
        }

        /** The WORD came about unharmed, in so many ways, by CELLS ahead of this one: how many stay unharmed. */
        private static long harmless(Flips by, int key, int cell, int word, long ways) {
            if (cell >= by.cells.n) {
                return ways;
            }
            long sum = harmless(by, key, cell + 1, word, ways * by.stay[cell]);
            int flipped = word ^ 1 << cell;
            if (by.flip[cell] > 0 && by.code.nearestKey(flipped) == key) {
                sum += harmless(by, key, cell + 1, flipped, ways * by.flip[cell]);
            }
            return sum;
        }
    }

    /** The CHIPS, with their HELP. */
    private static final class Chips {
        static final int MOST = 8;
        /** One that differs in so many CELLS more than the nearest one leaves that one SURE. */
        private static final int SURE_GAP = 3;

        int many = 0;
        final int[] nominal = new int[MOST];
        final boolean[] helped = new boolean[MOST];
        final int[] help = new int[MOST];
        final int[] key = new int[MOST];

        boolean isChip(int chip) {
            return chip >= 0 && chip < many;
        }

        int add(int word) {
            int chip = many;
            if (chip < MOST) {
                nominal[chip] = word;
                helped[chip] = false;
                many++;
            }
            return chip;
        }

        void dropAll() {
            many = 0;
        }

        void giveHelp(int chip, int word, int drawn) {
            helped[chip] = true;
            help[chip] = word;
            key[chip] = drawn;
        }

        void dropHelp() {
            for (int chip = 0; chip < many; chip++) {
                helped[chip] = false;
            }
        }

        int withHelp() {
            int sum = 0;
            for (int chip = 0; chip < many; chip++) {
                sum += helped[chip] ? 1 : 0;
            }
            return sum;
        }

        /** -1 if there are no CHIPS. */
        int nearest(int word, int open) {
            int best = -1;
            int fewest = 0;
            for (int chip = 0; chip < many; chip++) {
                int bits = Integer.bitCount((nominal[chip] ^ word) & open);
                if (best < 0 || bits < fewest) {
                    fewest = bits;
                    best = chip;
                }
            }
            return best;
        }

        boolean hasLoneNearest(int word, int open) {
            int best = nearest(word, open);
            if (best < 0) {
                return false;
            }
            int near = Integer.bitCount((nominal[best] ^ word) & open) + SURE_GAP;
            for (int chip = 0; chip < many; chip++) {
                if (chip != best && Integer.bitCount((nominal[chip] ^ word) & open) < near) {
                    return false;
                }
            }
            return true;
        }

        int fewestApart(int open) {
            int fewest = Cells.MOST;
            for (int one = 0; one < many; one++) {
                for (int other = 0; other < one; other++) {
                    fewest = Math.min(fewest, Integer.bitCount((nominal[one] ^ nominal[other]) & open));
                }
            }
            return fewest;
        }

        int onesAt(int cell) {
            int sum = 0;
            for (int chip = 0; chip < many; chip++) {
                sum += nominal[chip] >> cell & 1;
            }
            return sum;
        }
    }

    /** PAIRS, and what they tell of PLANES. */
    private static final class Pairs {
        static final int QUESTIONS = 16;
        static final int PARTS = 5;
        private static final int NUMBERS = 4;
        private static final int MOST_WEIGHT = 3;
        private static final int WEIGHTS = 2 * MOST_WEIGHT + 1;
        private static final int WEIGHT_ROWS = WEIGHTS * WEIGHTS * WEIGHTS * WEIGHTS;
        private static final int MOST_LIMIT = 6;

        int many = 0;
        final boolean[] seen = new boolean[QUESTIONS];
        final int[] answer = new int[QUESTIONS];
        final boolean[] used = new boolean[QUESTIONS];

        /** What the last survey found: kept until another PAIR is seen, for a survey is dear. */
        private boolean surveyed = false;
        int planes = 0;
        final int[] first = new int[PARTS];
        private final int[] sayingOne = new int[QUESTIONS];

        /** The w that the survey is at, and what they make of each QUESTION. */
        private final int[] weights = new int[NUMBERS];
        private final int[] sums = new int[QUESTIONS];

        static boolean isQuestion(int question) {
            return question >= 0 && question < QUESTIONS;
        }

        static boolean isAnswer(int answer) {
            return answer == 0 || answer == 1;
        }

        void keep(int question, int given) {
            if (!seen[question]) {
                seen[question] = true;
                answer[question] = given;
                many++;
                surveyed = false;
            }
        }

        int usedOnes() {
            int sum = 0;
            for (int question = 0; question < QUESTIONS; question++) {
                sum += used[question] ? 1 : 0;
            }
            return sum;
        }

        int foretell(int question) {
            survey();
            if (planes == 0) {
                return 3;
            }
            if (sayingOne[question] == planes) {
                return 1;
            }
            return sayingOne[question] == 0 ? 0 : 2;
        }

        /** NEXT QUESTION; -1 if there is none. */
        int halvingQuestion() {
            survey();
            int best = -1;
            int least = planes;
            for (int question = 0; question < QUESTIONS && planes > 0; question++) {
                int greater = Math.max(sayingOne[question], planes - sayingOne[question]);
                if (!seen[question] && (best < 0 || greater < least)) {
                    least = greater;
                    best = question;
                }
            }
            return best;
        }

        /** Each w leaves its c one stretch, so no c has to be tried. */
        void survey() {
            if (surveyed) {
                return;
            }
            surveyed = true;
            planes = 0;
            for (int question = 0; question < QUESTIONS; question++) {
                sayingOne[question] = 0;
            }
            for (int number = 0; number < WEIGHT_ROWS; number++) {
                weigh(number);
                int low = leastLimit();
                int high = greatestLimit();
                if (low <= high) {
                    countPlanes(low, high);
                }
            }
        }

        /** Greater numbers stand for later w: w0 counts most. */
        private void weigh(int number) {
            int rest = number;
            int sum = 0;
            for (int i = NUMBERS - 1; i >= 0; i--) {
                weights[i] = rest % WEIGHTS - MOST_WEIGHT;
                rest /= WEIGHTS;
                sum += weights[i];
            }
            sums[0] = -sum;
            for (int i = 0; i < NUMBERS; i++) {
                int bit = 1 << i;
                for (int lower = 0; lower < bit; lower++) {
                    sums[bit + lower] = sums[lower] + 2 * weights[i];
                }
            }
        }

        private int leastLimit() {
            int least = -MOST_LIMIT;
            for (int question = 0; question < QUESTIONS; question++) {
                if (seen[question] && answer[question] == 0) {
                    least = Math.max(least, sums[question] + 1);
                }
            }
            return least;
        }

        private int greatestLimit() {
            int greatest = MOST_LIMIT;
            for (int question = 0; question < QUESTIONS; question++) {
                if (seen[question] && answer[question] == 1) {
                    greatest = Math.min(greatest, sums[question]);
                }
            }
            return greatest;
        }

        private void countPlanes(int low, int high) {
            if (planes == 0) {
                System.arraycopy(weights, 0, first, 0, NUMBERS);
                first[NUMBERS] = low;
            }
            planes += high - low + 1;
            for (int question = 0; question < QUESTIONS; question++) {
                int most = Math.min(high, sums[question]);
                sayingOne[question] += Math.max(0, most - low + 1);
            }
        }
    }
}
