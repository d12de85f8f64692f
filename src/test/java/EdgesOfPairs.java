import java.util.ArrayList;
import java.util.Arrays;
import java.util.List;

/** Part IV of the terms, and promises 23 to 28. */
final class EdgesOfPairs {
    private static final int HUGE = Integer.MAX_VALUE;
    private static final int TINY = Integer.MIN_VALUE;

    private final Edges edges;

    EdgesOfPairs(Edges edges) {
        this.edges = edges;
    }

    void run() {
        termKind();
        termPairs();
        termPlanes();
        termForetold();
        termNext();
        termOnce();
        pair();
        pairRefused();
        pairAgain();
        planes();
        plane();
        foretold();
        next();
        check();
        checkRefused();
    }

    /** What a PLANE (w0, w1, w2, w3, c) answers a QUESTION. */
    private static int answer(int[] plane, int question) {
        int sum = 0;
        for (int i = 0; i < 4; i++) {
            int q = (question >> i & 1) == 1 ? 1 : -1;
            sum += plane[i] * q;
        }
        return sum >= plane[4] ? 1 : 0;
    }

    /** In order of w0, w1, w2, w3, c: those that answer as seen; -1 stands for a QUESTION that was not. */
    private static List<int[]> planesOf(int[] seen) {
        List<int[]> found = new ArrayList<>();
        for (int number = 0; number < 7 * 7 * 7 * 7 * 13; number++) {
            int w = number / 13;
            int[] plane = {w / 343 - 3, w / 49 % 7 - 3, w / 7 % 7 - 3, w % 7 - 3, number % 13 - 6};
            boolean fits = true;
            for (int question = 0; question < 16 && fits; question++) {
                fits = seen[question] < 0 || seen[question] == answer(plane, question);
            }
            if (fits) {
                found.add(plane);
            }
        }
        return found;
    }

    private static int[] nothingSeen() {
        int[] seen = new int[16];
        Arrays.fill(seen, -1);
        return seen;
    }

    private static NoiseKeys having(int[] seen) {
        NoiseKeys keys = new NoiseKeys();
        for (int question = 0; question < 16; question++) {
            if (seen[question] >= 0) {
                keys.pair(question, seen[question]);
            }
        }
        return keys;
    }

    /** PAIRS (3, 1) and (12, 0), of which (3, 1) is USED. */
    private static NoiseKeys usedPair() {
        NoiseKeys keys = new NoiseKeys();
        keys.pair(3, 1);
        keys.pair(12, 0);
        keys.check(3, 1);
        return keys;
    }

    /** No PLANE says 1 to 0 and to 15, and 0 to 3 and to 12: both twos add up to nothing. */
    private static NoiseKeys withoutPlanes() {
        NoiseKeys keys = new NoiseKeys();
        keys.pair(0, 1);
        keys.pair(15, 1);
        keys.pair(3, 0);
        keys.pair(12, 0);
        return keys;
    }

    private void termKind() {
        edges.terms("ANOTHER KIND of chip answers a QUESTION (four numbers, -1 or 1, told as bits: bit i set: 1) by 1 "
            + "if w0 q0 and w1 q1 and w2 q2 and w3 q3 are c or more together, else 0; w are -3 .. 3, c is -6 .. 6.");
        for (int question = 0; question < 16; question++) {
            for (int said = 0; said < 2; said++) {
                int[] seen = nothingSeen();
                seen[question] = said;
                edges.same("PLANES that say " + said + " to " + question, planesOf(seen).size(), having(seen).planes());
            }
        }
        int[][] corners = {{3, 3, 3, 3, 6}, {-3, -3, -3, -3, -6}, {3, 0, -3, 1, 6}, {0, 0, 0, 0, 0}, {0, 0, 0, 1, 1}};
        for (int[] plane : corners) {
            int[] seen = new int[16];
            for (int question = 0; question < 16; question++) {
                seen[question] = answer(plane, question);
            }
            edges.same("a chip by its answers", planesOf(seen).size(), having(seen).planes());
        }
    }

    private void termPairs() {
        edges.terms("PAIRS that were seen: QUESTIONS and answers (16 at most; of a QUESTION one).");
        NoiseKeys keys = new NoiseKeys();
        edges.same("none at first", 0, keys.count(6));
        for (int question = 15; question >= 0; question--) {
            edges.same("PAIRS", 16 - question, keys.pair(question, question & 1));
            edges.same("the other answer", -3, keys.pair(question, 1 - (question & 1)));
            edges.same("the same answer", 16 - question, keys.pair(question, question & 1));
        }
        edges.same("16 at most", 16, keys.count(6));
    }

    private void termPlanes() {
        edges.terms("PLANES: w, c by which all PAIRS are as seen; FIRST: that with the least w0, then w1, w2, w3, c.");
        int[][] rows = {{}, {0, 0}, {0, 1}, {15, 0, 0, 0}, {15, 1, 0, 0, 7, 0}, {8, 0, 7, 1, 4, 0, 11, 1},
            {1, 1, 2, 1, 4, 1, 8, 1, 0, 0}, {14, 0, 13, 0, 11, 0, 7, 0, 15, 1}};
        for (int[] row : rows) {
            int[] seen = nothingSeen();
            for (int i = 0; i < row.length; i += 2) {
                seen[row[i]] = row[i + 1];
            }
            List<int[]> due = planesOf(seen);
            NoiseKeys keys = having(seen);
            edges.same("how many", due.size(), keys.planes());
            for (int what = 0; what < 5; what++) {
                edges.same("FIRST, " + what, due.get(0)[what] + 10, keys.plane(what));
            }
        }
    }

    private void termForetold() {
        edges.terms("FORETOLD of a QUESTION: 1, 0 if all PLANES answer so; 2 if they don't agree; 3 if there is none.");
        for (int said = 0; said < 2; said++) {
            // What 1 and 2 make together is what 0 and 3 make together, so 3 can't be as 0 was.
            int[] seen = nothingSeen();
            seen[1] = said;
            seen[2] = said;
            seen[0] = 1 - said;
            NoiseKeys keys = having(seen);
            edges.same("3 was not seen", said, keys.foretold(3));
            List<int[]> left = planesOf(seen);
            for (int question = 0; question < 16; question++) {
                edges.same("foretold(" + question + ")", foretoldBy(left, question), keys.foretold(question));
            }
        }
        for (int question = 0; question < 16; question++) {
            NoiseKeys keys = new NoiseKeys();
            edges.same("at first, " + question, 2, keys.foretold(question));
            keys.pair(question, question & 1);
            edges.same("as it was seen then, " + question, question & 1, keys.foretold(question));
            edges.same("without PLANES, " + question, 3, withoutPlanes().foretold(question));
        }
    }

    private static int foretoldBy(List<int[]> planes, int question) {
        int ones = 0;
        for (int[] plane : planes) {
            ones += answer(plane, question);
        }
        return ones == planes.size() ? 1 : ones == 0 ? 0 : 2;
    }

    private void termNext() {
        edges.terms("NEXT QUESTION: the one (not among PAIRS) for which the greater number of PLANES that would say "
            + "1, 0 is least, of several the least.");
        int[] chip = {2, -1, 3, 1, 1};
        int[] seen = nothingSeen();
        NoiseKeys keys = new NoiseKeys();
        for (int asked = 0; asked < 16; asked++) {
            int due = nextOf(seen);
            edges.same("behind " + asked + " PAIRS", due, keys.next());
            seen[due] = answer(chip, due);
            keys.pair(due, seen[due]);
        }
        edges.same("behind all", -9, keys.next());
    }

    private static int nextOf(int[] seen) {
        int best = -1;
        int least = HUGE;
        for (int question = 15; question >= 0; question--) {
            if (seen[question] < 0) {
                int greater = 0;
                for (int said = 0; said < 2; said++) {
                    int[] then = seen.clone();
                    then[question] = said;
                    greater = Math.max(greater, planesOf(then).size());
                }
                best = greater <= least ? question : best;
                least = Math.min(greater, least);
            }
        }
        return best;
    }

    private void termOnce() {
        edges.terms("ONCE: PAIRS may be USED by a check, each once: the check is passed if the answer is that.");
        for (int question = 0; question < 16; question++) {
            for (int seen = 0; seen < 2; seen++) {
                for (int said = 0; said < 2; said++) {
                    NoiseKeys keys = new NoiseKeys();
                    keys.pair(question, seen);
                    edges.same("USED at first", 0, keys.count(7));
                    int due = seen == said ? 1 : 0;
                    edges.same("check(" + question + ", " + said + ")", due, keys.check(question, said));
                    edges.same("USED", 1, keys.count(7));
                    edges.same("once more", -3, keys.check(question, seen));
                    edges.same("USED", 1, keys.count(7));
                }
            }
        }
    }

    private void pair() {
        edges.promise(23, "A PAIR is seen: how many there are.");
        NoiseKeys keys = new NoiseKeys();
        edges.same("the first QUESTION", 1, keys.pair(0, 1));
        edges.same("the last QUESTION", 2, keys.pair(15, 0));
        edges.same("count(6)", 2, keys.count(6));
        edges.same("as seen", 1, keys.foretold(0));
        edges.same("as seen", 0, keys.foretold(15));
        keys.cells(4);
        edges.same("another N", 3, keys.pair(1, 1));
    }

    private void pairRefused() {
        edges.promise(23, "-1 QUESTION 0 .. 15, answer 0, 1;");
        edges.refused(-1, EdgesOfPairs::usedPair, "pair(16, 0)", keys -> keys.pair(16, 0));
        edges.refused(-1, EdgesOfPairs::usedPair, "pair(-1, 1)", keys -> keys.pair(-1, 1));
        edges.refused(-1, EdgesOfPairs::usedPair, "pair(HUGE, 0)", keys -> keys.pair(HUGE, 0));
        edges.refused(-1, EdgesOfPairs::usedPair, "pair(TINY, 0)", keys -> keys.pair(TINY, 0));
        edges.refused(-1, EdgesOfPairs::usedPair, "pair(4, 2)", keys -> keys.pair(4, 2));
        edges.refused(-1, EdgesOfPairs::usedPair, "pair(4, -1)", keys -> keys.pair(4, -1));
        edges.refused(-1, EdgesOfPairs::usedPair, "pair(4, TINY)", keys -> keys.pair(4, TINY));
        edges.refused(-1, EdgesOfPairs::usedPair, "pair(3, 2), seen", keys -> keys.pair(3, 2));
        edges.promise(23, "-3 another answer to it was;");
        edges.refused(-3, EdgesOfPairs::usedPair, "pair(3, 0), USED", keys -> keys.pair(3, 0));
        edges.refused(-3, EdgesOfPairs::usedPair, "pair(12, 1)", keys -> keys.pair(12, 1));
    }

    private void pairAgain() {
        edges.promise(23, "(the same one: nothing changes)");
        edges.untouched("2", EdgesOfPairs::usedPair, "pair(3, 1), USED", keys -> keys.pair(3, 1));
        edges.untouched("2", EdgesOfPairs::usedPair, "pair(12, 0)", keys -> keys.pair(12, 0));
        NoiseKeys keys = usedPair();
        keys.pair(3, 1);
        edges.same("USED it stays", -3, keys.check(3, 1));
    }

    private void planes() {
        edges.promise(24, "How many PLANES there are.");
        edges.same("at first", 31213, new NoiseKeys().planes());
        edges.same("none", 0, withoutPlanes().planes());
        NoiseKeys keys = new NoiseKeys();
        int[] seen = nothingSeen();
        for (int question = 0; question < 16; question++) {
            seen[question] = 1;
            edges.same("PAIRS", question + 1, keys.pair(question, 1));
            edges.same("1 to all up to " + question, planesOf(seen).size(), keys.planes());
        }
    }

    private void plane() {
        edges.promise(25, "FIRST: w (what 0 .. 3), c (4), and 10;");
        int[] due = {7, 7, 7, 7, 4};
        for (int what = 0; what < 5; what++) {
            edges.same("plane(" + what + ") at first", due[what], new NoiseKeys().plane(what));
        }
        // A chip that says 0 to all: the least w whose greatest sum, 5, is less than a c.
        NoiseKeys keys = new NoiseKeys();
        for (int question = 0; question < 16; question++) {
            keys.pair(question, 0);
        }
        int[] none = {7, 8, 10, 10, 16};
        for (int what = 0; what < 5; what++) {
            edges.same("plane(" + what + ") of zeros", none[what], keys.plane(what));
        }
        edges.promise(25, "-9 there is none.");
        for (int what = 0; what < 5; what++) {
            int part = what;
            edges.untouched("-9", EdgesOfPairs::withoutPlanes, "plane(" + what + ")", other -> other.plane(part));
        }
        edges.promise(25, "-2");
        edges.refused(-2, NoiseKeys::new, "plane(5)", other -> other.plane(5));
        edges.refused(-2, NoiseKeys::new, "plane(-1)", other -> other.plane(-1));
        edges.refused(-2, NoiseKeys::new, "plane(HUGE)", other -> other.plane(HUGE));
        edges.refused(-2, NoiseKeys::new, "plane(TINY)", other -> other.plane(TINY));
        edges.refused(-2, EdgesOfPairs::withoutPlanes, "plane(5) without PLANES", other -> other.plane(5));
    }

    private void foretold() {
        edges.promise(26, "FORETOLD.");
        NoiseKeys keys = usedPair();
        edges.same("1 was seen", 1, keys.foretold(3));
        edges.same("0 was seen", 0, keys.foretold(12));
        edges.same("the first QUESTION", 2, keys.foretold(0));
        edges.same("the last QUESTION", 2, keys.foretold(15));
        int[] seen = nothingSeen();
        seen[3] = 1;
        seen[12] = 0;
        for (int more = 4; more < 8; more++) {
            seen[more] = 0;
            keys.pair(more, 0);
            for (int question = 0; question < 16; question++) {
                String name = "of " + question + " behind a PAIR more, " + more;
                edges.same(name, foretoldBy(planesOf(seen), question), keys.foretold(question));
            }
        }
        edges.same("a seen one without PLANES", 3, withoutPlanes().foretold(0));
        edges.promise(26, "-1");
        edges.refused(-1, NoiseKeys::new, "foretold(16)", other -> other.foretold(16));
        edges.refused(-1, NoiseKeys::new, "foretold(-1)", other -> other.foretold(-1));
        edges.refused(-1, NoiseKeys::new, "foretold(HUGE)", other -> other.foretold(HUGE));
        edges.refused(-1, NoiseKeys::new, "foretold(TINY)", other -> other.foretold(TINY));
        edges.refused(-1, EdgesOfPairs::withoutPlanes, "foretold(16) without PLANES", other -> other.foretold(16));
    }

    private void next() {
        edges.promise(27, "NEXT QUESTION;");
        edges.same("all are alike at first", 0, new NoiseKeys().next());
        for (int left = 0; left < 16; left++) {
            int[] seen = new int[16];
            seen[left] = -1;
            edges.same("the only one left", left, having(seen).next());
        }
        edges.promise(27, "-9 all are PAIRS, or there are no PLANES.");
        edges.untouched("-9", () -> having(new int[16]), "all are PAIRS", keys -> keys.next());
        edges.is("though there are PLANES", having(new int[16]).planes() > 0);
        edges.untouched("-9", EdgesOfPairs::withoutPlanes, "no PLANES", keys -> keys.next());
    }

    private void check() {
        edges.promise(28, "A check by a QUESTION that is among PAIRS, not USED yet: 1 passed, 0 not; it is USED.");
        NoiseKeys keys = having(new int[16]);
        for (int question = 0; question < 16; question++) {
            edges.same("check(" + question + ")", question % 2, keys.check(question, 1 - question % 2));
            edges.same("USED", question + 1, keys.count(7));
        }
        edges.same("PAIRS stay", 16, keys.count(6));
        keys = withoutPlanes();
        edges.same("without PLANES", 1, keys.check(0, 1));
        keys.cells(9);
        edges.same("another N leaves it USED", -3, keys.check(0, 1));
    }

    private void checkRefused() {
        edges.promise(28, "-1");
        edges.refused(-1, EdgesOfPairs::usedPair, "check(16, 0)", keys -> keys.check(16, 0));
        edges.refused(-1, EdgesOfPairs::usedPair, "check(-1, 0)", keys -> keys.check(-1, 0));
        edges.refused(-1, EdgesOfPairs::usedPair, "check(HUGE, 0)", keys -> keys.check(HUGE, 0));
        edges.refused(-1, EdgesOfPairs::usedPair, "check(TINY, 0)", keys -> keys.check(TINY, 0));
        edges.refused(-1, EdgesOfPairs::usedPair, "check(12, 2)", keys -> keys.check(12, 2));
        edges.refused(-1, EdgesOfPairs::usedPair, "check(12, -1)", keys -> keys.check(12, -1));
        edges.promise(28, "-3 none such.");
        edges.refused(-3, EdgesOfPairs::usedPair, "not among PAIRS", keys -> keys.check(4, 0));
        edges.refused(-3, EdgesOfPairs::usedPair, "USED", keys -> keys.check(3, 1));
        edges.refused(-3, EdgesOfPairs::usedPair, "USED, the other answer", keys -> keys.check(3, 0));
    }
}
