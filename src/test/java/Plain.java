import java.util.ArrayList;
import java.util.Arrays;
import java.util.HashMap;
import java.util.List;
import java.util.Map;
import java.util.TreeMap;

/** The document once more, as plainly as it can be said and without a thought of speed, to hold the class against. */
final class Plain {
    private static final class Chip {
        final int nominal;
        Integer help = null;
        int key = 0;

        Chip(int nominal) {
            this.nominal = nominal;
        }
    }

    private static final int[][] EVERY_PLANE = everyPlane();

    private int n = 8;
    private int mask = 0;
    private final int[] chance = new int[14];
    private final int[] wear = new int[14];
    private final int[] lean = new int[14];
    private final List<Chip> chips = new ArrayList<>();
    private final List<Integer> rows = new ArrayList<>();
    private final TreeMap<Integer, Integer> pairs = new TreeMap<>();
    private final List<Integer> used = new ArrayList<>();
    private final Map<Integer, Integer> refusals = new HashMap<>();
    /** MENDED of every WORD, while THE CODE is as it is: else no random run would end. */
    private int[] mendedWords = null;

    Plain() {
        Arrays.fill(chance, 1);
        Arrays.fill(lean, 4);
    }

    private static int[][] everyPlane() {
        List<int[]> found = new ArrayList<>();
        for (int a = -3; a <= 3; a++) {
            for (int b = -3; b <= 3; b++) {
                for (int c = -3; c <= 3; c++) {
                    for (int d = -3; d <= 3; d++) {
                        for (int limit = -6; limit <= 6; limit++) {
                            found.add(new int[] {a, b, c, d, limit});
                        }
                    }
                }
            }
        }
        return found.toArray(new int[0][]);
    }

    private int no(int number) {
        refusals.merge(number, 1, Integer::sum);
        return number;
    }

    private boolean otherBits(int word) {
        return word < 0 || word >= 1 << n;
    }

    private boolean out(int value, int least, int greatest) {
        return value < least || value > greatest;
    }

    private boolean masked(int cell) {
        return (mask & 1 << cell) != 0;
    }

    private List<Integer> open() {
        List<Integer> found = new ArrayList<>();
        for (int cell = 0; cell < n; cell++) {
            if (!masked(cell)) {
                found.add(cell);
            }
        }
        return found;
    }

    private int bit(int word, int cell) {
        return word >> cell & 1;
    }

    private int apartOf(int one, int other) {
        int sum = 0;
        for (int cell : open()) {
            sum += bit(one, cell) == bit(other, cell) ? 0 : 1;
        }
        return sum;
    }

    private int keys() {
        return 1 << rows.size();
    }

    private int word(int key) {
        int sum = 0;
        for (int i = 0; i < rows.size(); i++) {
            sum ^= bit(key, i) == 1 ? rows.get(i) : 0;
        }
        return sum;
    }

    private void dropCode() {
        rows.clear();
        dropHelp();
    }

    private void dropHelp() {
        mendedWords = null;
        for (Chip chip : chips) {
            chip.help = null;
        }
    }

    int cells(int m) {
        if (m < 4) {
            return no(-4);
        }
        if (m > 14) {
            return no(-6);
        }
        int before = n;
        n = m;
        mask = 0;
        chips.clear();
        dropCode();
        return before;
    }

    int chip(int nominal) {
        if (otherBits(nominal)) {
            return no(-1);
        }
        if (chips.size() == 8) {
            return no(-6);
        }
        chips.add(new Chip(nominal));
        return chips.size() - 1;
    }

    int set(int cell, int what, int v) {
        if (out(cell, 0, 13)) {
            return no(-1);
        }
        if (out(what, 0, 2)) {
            return no(-2);
        }
        if (v < (what == 2 ? 1 : 0)) {
            return no(-4);
        }
        if (v > (what == 2 ? 7 : 4)) {
            return no(-6);
        }
        int[] row = what == 0 ? chance : what == 1 ? wear : lean;
        int before = row[cell];
        row[cell] = v;
        return before;
    }

    private int chanceWithoutMask(int cell, int age) {
        return Math.min(4, chance[cell] + wear[cell] * age / 10);
    }

    int chance(int cell, int age) {
        if (out(cell, 0, n - 1)) {
            return no(-1);
        }
        if (age < 0) {
            return no(-4);
        }
        if (age > 40) {
            return no(-6);
        }
        return masked(cell) ? 0 : chanceWithoutMask(cell, age);
    }

    int mask(int set) {
        if (otherBits(set)) {
            return no(-1);
        }
        int before = mask;
        if (set != before) {
            mask = set;
            dropCode();
        }
        return before;
    }

    int maskBy(int age, int most) {
        if (age < 0 || most < 0) {
            return no(-4);
        }
        if (age > 40 || most > 4) {
            return no(-6);
        }
        int set = 0;
        for (int cell = 0; cell < n; cell++) {
            set += chanceWithoutMask(cell, age) > most ? 1 << cell : 0;
        }
        mask(set);
        return set;
    }

    int row(int word) {
        if (otherBits(word)) {
            return no(-1);
        }
        int kept = word & ~mask;
        for (int key = 0; key < keys(); key++) {
            if (word(key) == kept) {
                return no(-3);
            }
        }
        if (rows.size() == 6) {
            return no(-6);
        }
        rows.add(kept);
        dropHelp();
        return rows.size();
    }

    int distance() {
        int fewest = rows.isEmpty() ? 0 : 99;
        for (int key = 1; key < keys(); key++) {
            fewest = Math.min(fewest, apartOf(word(key), 0));
        }
        return fewest;
    }

    int codeword(int key) {
        return out(key, 0, keys() - 1) ? no(-1) : word(key);
    }

    private List<Integer> nearest(int word) {
        List<Integer> found = new ArrayList<>();
        int fewest = 99;
        for (int key = 0; key < keys(); key++) {
            int bits = apartOf(word(key), word);
            if (bits < fewest) {
                found.clear();
                fewest = bits;
            }
            if (bits == fewest) {
                found.add(key);
            }
        }
        return found;
    }

    int mended(int word) {
        return otherBits(word) ? no(-1) : nearest(word).get(0);
    }

    int clear(int word) {
        return otherBits(word) ? no(-1) : nearest(word).size() == 1 ? 1 : 0;
    }

    int enrol(int number, int key) {
        if (out(number, 0, chips.size() - 1) || out(key, 0, keys() - 1)) {
            return no(-1);
        }
        Chip chip = chips.get(number);
        chip.help = chip.nominal & ~mask ^ word(key);
        chip.key = key;
        return chip.help;
    }

    int reading(int number, int word) {
        if (out(number, 0, chips.size() - 1) || otherBits(word)) {
            return no(-1);
        }
        Chip chip = chips.get(number);
        return chip.help == null ? no(-3) : nearest(word & ~mask ^ chip.help).get(0);
    }

    private int mendedOf(int word) {
        if (mendedWords == null) {
            mendedWords = new int[1 << n];
            Arrays.fill(mendedWords, -1);
        }
        if (mendedWords[word] < 0) {
            mendedWords[word] = nearest(word).get(0);
        }
        return mendedWords[word];
    }

    private long failOf(Chip chip, int age) {
        List<Integer> open = open();
        long sum = 0;
        for (int flips = 0; flips < 1 << n; flips++) {
            if ((flips & mask) == 0) {
                long product = 1;
                for (int cell : open) {
                    int p = chanceWithoutMask(cell, age);
                    product *= bit(flips, cell) == 1 ? p : 8 - p;
                }
                int read = (chip.nominal ^ flips) & ~mask;
                sum += mendedOf(read ^ chip.help) == chip.key ? 0 : product;
            }
        }
        return sum;
    }

    long fail(int number, int age) {
        if (out(number, 0, chips.size() - 1) || out(age, 0, 40)) {
            throw new IllegalArgumentException();
        }
        if (chips.get(number).help == null) {
            throw new IllegalStateException();
        }
        return failOf(chips.get(number), age);
    }

    long all() {
        long product = 1;
        for (int i = 0; i < open().size(); i++) {
            product *= 8;
        }
        return product;
    }

    int lasts(int number, int eighths) {
        if (out(number, 0, chips.size() - 1)) {
            return no(-1);
        }
        if (chips.get(number).help == null) {
            return no(-3);
        }
        if (eighths < 0) {
            return no(-4);
        }
        if (eighths > 8) {
            return no(-6);
        }
        for (int age = 0; age <= 40; age++) {
            if (failOf(chips.get(number), age) * 8 > eighths * all()) {
                return age;
            }
        }
        return -9;
    }

    private long likelihood(int help, int key) {
        long product = 1;
        for (int cell : open()) {
            product *= bit(help ^ word(key), cell) == 1 ? lean[cell] : 8 - lean[cell];
        }
        return product;
    }

    private int best(int help) {
        int best = 0;
        for (int key = 0; key < keys(); key++) {
            best = likelihood(help, key) > likelihood(help, best) ? key : best;
        }
        return best;
    }

    int guess(int help) {
        return otherBits(help) ? no(-1) : best(help);
    }

    long weight(int help, boolean sum) {
        if (otherBits(help)) {
            throw new IllegalArgumentException();
        }
        long added = 0;
        for (int key = 0; key < keys(); key++) {
            added += likelihood(help, key);
        }
        return sum ? added : likelihood(help, best(help));
    }

    int leak() {
        return open().size() - rows.size();
    }

    int even(int word, int what) {
        if (otherBits(word)) {
            return no(-1);
        }
        if (out(what, 0, 1)) {
            return no(-2);
        }
        StringBuilder bits = new StringBuilder();
        List<Integer> open = open();
        for (int i = 0; i + 1 < open.size(); i += 2) {
            int one = bit(word, open.get(i));
            int other = bit(word, open.get(i + 1));
            bits.append(one == other ? "" : one == 0 ? "0" : "1");
        }
        return what == 0 ? bits.length() : bits.length() == 0 ? 0 : Integer.parseInt(bits.toString(), 2);
    }

    int expected() {
        int sum = 0;
        List<Integer> open = open();
        for (int i = 0; i + 1 < open.size(); i += 2) {
            int one = lean[open.get(i)];
            int other = lean[open.get(i + 1)];
            sum += one * (8 - other) + other * (8 - one);
        }
        return sum;
    }

    int pair(int question, int answer) {
        if (out(question, 0, 15) || out(answer, 0, 1)) {
            return no(-1);
        }
        if (pairs.containsKey(question) && pairs.get(question) != answer) {
            return no(-3);
        }
        pairs.put(question, answer);
        return pairs.size();
    }

    private static int says(int[] plane, int question) {
        int sum = 0;
        for (int i = 0; i < 4; i++) {
            sum += (question >> i & 1) == 1 ? plane[i] : -plane[i];
        }
        return sum >= plane[4] ? 1 : 0;
    }

    private List<int[]> planesLeft() {
        List<int[]> left = new ArrayList<>();
        for (int[] plane : EVERY_PLANE) {
            boolean right = true;
            for (Map.Entry<Integer, Integer> pair : pairs.entrySet()) {
                right = right && says(plane, pair.getKey()) == pair.getValue();
            }
            if (right) {
                left.add(plane);
            }
        }
        return left;
    }

    int planes() {
        return planesLeft().size();
    }

    int plane(int what) {
        if (out(what, 0, 4)) {
            return no(-2);
        }
        List<int[]> left = planesLeft();
        return left.isEmpty() ? -9 : left.get(0)[what] + 10;
    }

    private static int sayingOne(List<int[]> left, int question) {
        int sum = 0;
        for (int[] plane : left) {
            sum += says(plane, question);
        }
        return sum;
    }

    int foretold(int question) {
        if (out(question, 0, 15)) {
            return no(-1);
        }
        List<int[]> left = planesLeft();
        int ones = sayingOne(left, question);
        return left.isEmpty() ? 3 : ones == left.size() ? 1 : ones == 0 ? 0 : 2;
    }

    int next() {
        List<int[]> left = planesLeft();
        int best = -9;
        int least = Integer.MAX_VALUE;
        for (int question = 0; question < 16 && !left.isEmpty(); question++) {
            int ones = sayingOne(left, question);
            int greater = Math.max(ones, left.size() - ones);
            if (!pairs.containsKey(question) && greater < least) {
                least = greater;
                best = question;
            }
        }
        return best;
    }

    int check(int question, int answer) {
        if (out(question, 0, 15) || out(answer, 0, 1)) {
            return no(-1);
        }
        if (!pairs.containsKey(question) || used.contains(question)) {
            return no(-3);
        }
        used.add(question);
        return pairs.get(question) == answer ? 1 : 0;
    }

    int whose(int word) {
        if (otherBits(word)) {
            return no(-1);
        }
        for (int bits = 0; bits <= n; bits++) {
            for (int chip = 0; chip < chips.size(); chip++) {
                if (apartOf(chips.get(chip).nominal, word) == bits) {
                    return chip;
                }
            }
        }
        return -9;
    }

    int sure(int word) {
        if (otherBits(word)) {
            return no(-1);
        }
        List<Integer> bits = new ArrayList<>();
        for (Chip chip : chips) {
            bits.add(apartOf(chip.nominal, word));
        }
        bits.sort(null);
        return bits.isEmpty() ? 0 : bits.size() == 1 || bits.get(1) > bits.get(0) + 2 ? 1 : 0;
    }

    int apart() {
        int fewest = 99;
        for (Chip one : chips) {
            for (Chip other : chips) {
                fewest = one == other ? fewest : Math.min(fewest, apartOf(one.nominal, other.nominal));
            }
        }
        return fewest == 99 ? -9 : fewest;
    }

    int odd(int cell) {
        if (out(cell, 0, n - 1)) {
            return no(-1);
        }
        int sum = 0;
        for (Chip chip : chips) {
            sum += bit(chip.nominal, cell);
        }
        return sum;
    }

    int count(int what) {
        int helped = 0;
        for (Chip chip : chips) {
            helped += chip.help == null ? 0 : 1;
        }
        int[] counts = {n, chips.size(), rows.size(), open().size(), mask, helped, pairs.size(), used.size()};
        if (what >= 0 && what < 8) {
            return counts[what];
        }
        return what >= 11 && what <= 16 ? refusals.getOrDefault(10 - what, 0) : -9;
    }
}
