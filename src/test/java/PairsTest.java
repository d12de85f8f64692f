/** Promises 23 to 28: pair, planes, plane, foretold, next, check. */
public final class PairsTest {
    private static final Due due = new Due();

    public static void main(String[] args) {
        pairsAreCountedOnce();
        planesFall();
        firstPlane();
        noPlanes();
        foretoldAnswers();
        nextQuestions();
        nextHalves();
        checksAreOnce();
        due.end();
    }

    private static void pairsAreCountedOnce() {
        NoiseKeys keys = new NoiseKeys();
        due.same("pair(15, 1)", 1, keys.pair(15, 1));
        due.same("the same one", 1, keys.pair(15, 1));
        due.same("another answer", -3, keys.pair(15, 0));
        due.same("pair(0, 0)", 2, keys.pair(0, 0));
        due.same("another answer", -3, keys.pair(0, 1));
        due.same("pair(16, 0)", -1, keys.pair(16, 0));
        due.same("pair(-1, 0)", -1, keys.pair(-1, 0));
        due.same("pair(1, 2)", -1, keys.pair(1, 2));
        due.same("pair(1, -1)", -1, keys.pair(1, -1));
        due.same("such an answer is told first", -1, keys.pair(0, 2));
        due.same("PAIRS", 2, keys.count(6));
        for (int question = 1; question < 15; question++) {
            due.same("pair(" + question + ", 1)", question + 2, keys.pair(question, 1));
        }
        due.same("PAIRS", 16, keys.count(6));
    }

    private static void planesFall() {
        NoiseKeys keys = new NoiseKeys();
        due.same("all of them", 7 * 7 * 7 * 7 * 13, keys.planes());
        keys.pair(5, 1);
        int sayingOne = keys.planes();
        due.same("planes() of 5, 1", planesSayingOne(5), sayingOne);
        keys = new NoiseKeys();
        keys.pair(5, 0);
        due.same("planes() of 5, 0", 31213 - sayingOne, keys.planes());
        due.same("planes() again", 31213 - sayingOne, keys.planes());
        keys.pair(5, 1);
        due.same("a refused PAIR tells nothing", 31213 - sayingOne, keys.planes());
        keys.cells(4);
        due.same("CELLS tell nothing", 31213 - sayingOne, keys.planes());
    }

    private static int planesSayingOne(int question) {
        int many = 0;
        for (int w = 0; w < 7 * 7 * 7 * 7; w++) {
            int sum = 0;
            int rest = w;
            for (int i = 0; i < 4; i++) {
                sum += (question >> i & 1) == 1 ? rest % 7 - 3 : 3 - rest % 7;
                rest /= 7;
            }
            for (int c = -6; c <= 6; c++) {
                many += sum >= c ? 1 : 0;
            }
        }
        return many;
    }

    private static void firstPlane() {
        NoiseKeys keys = new NoiseKeys();
        int[] least = {7, 7, 7, 7, 4};
        for (int what = 0; what < 5; what++) {
            due.same("plane(" + what + ")", least[what], keys.plane(what));
        }
        keys.pair(0, 0);
        // To QUESTION 0 w make -(w0 + w1 + w2 + w3), now less than c, so 5 at most: -3 -3 -3 3 make 6, -3 -3 -2 3 do.
        int[] then = {7, 7, 8, 13, 16};
        for (int what = 0; what < 5; what++) {
            due.same("then plane(" + what + ")", then[what], keys.plane(what));
        }
        due.same("plane(5)", -2, keys.plane(5));
        due.same("plane(-1)", -2, keys.plane(-1));
    }

    private static void noPlanes() {
        NoiseKeys keys = new NoiseKeys();
        keys.pair(0, 1);
        keys.pair(15, 1);
        keys.pair(3, 0);
        keys.pair(12, 0);
        due.same("planes()", 0, keys.planes());
        due.same("plane(0)", -9, keys.plane(0));
        due.same("plane(4)", -9, keys.plane(4));
        due.same("plane(5)", -2, keys.plane(5));
        due.same("foretold(0)", 3, keys.foretold(0));
        due.same("foretold(1)", 3, keys.foretold(1));
        due.same("foretold(16)", -1, keys.foretold(16));
        due.same("next()", -9, keys.next());
        due.same("-9 is no REFUSAL", 1, keys.count(11) + keys.count(13));
    }

    private static void foretoldAnswers() {
        NoiseKeys keys = new NoiseKeys();
        for (int question = 0; question < 16; question++) {
            due.same("foretold(" + question + ")", 2, keys.foretold(question));
        }
        keys.pair(6, 0);
        keys.pair(9, 1);
        due.same("foretold(6)", 0, keys.foretold(6));
        due.same("foretold(9)", 1, keys.foretold(9));
        due.same("foretold(7)", 2, keys.foretold(7));
        keys.pair(0, 0);
        due.same("foretold(0)", 0, keys.foretold(0));
        due.same("foretold(6)", 0, keys.foretold(6));
        // 1 to 1 and 2, 0 to 0: 3 makes what 1 and 2 make together less what 0 makes, so more than c.
        keys = new NoiseKeys();
        keys.pair(1, 1);
        keys.pair(2, 1);
        keys.pair(0, 0);
        due.same("foretold(3)", 1, keys.foretold(3));
        keys = new NoiseKeys();
        keys.pair(1, 0);
        keys.pair(2, 0);
        keys.pair(0, 1);
        due.same("foretold(3)", 0, keys.foretold(3));
        due.same("foretold(-1)", -1, keys.foretold(-1));
        due.same("foretold(16)", -1, keys.foretold(16));
    }

    private static void nextQuestions() {
        NoiseKeys keys = new NoiseKeys();
        due.same("next()", 0, keys.next());
        for (int asked = 0; asked < 16; asked++) {
            int question = keys.next();
            due.same("one of the QUESTIONS", 1, question >= 0 && question < 16 ? 1 : 0);
            due.same("not among PAIRS", asked + 1, keys.pair(question, 1));
        }
        due.same("all are PAIRS", -9, keys.next());
        due.same("though there are PLANES", 1, keys.planes() > 0 ? 1 : 0);
    }

    private static void nextHalves() {
        NoiseKeys keys = new NoiseKeys();
        keys.pair(15, 1);
        keys.pair(0, 0);
        int question = keys.next();
        int least = greaterPart(question);
        for (int other = 1; other < 15; other++) {
            int part = greaterPart(other);
            boolean better = part < least || part == least && other < question;
            due.same(other + " is no better than " + question, 0, better ? 1 : 0);
        }
    }

    /** Of the PLANES that say 1 to 15 and 0 to 0: those that say the same to a QUESTION, 1 or 0, whichever are more. */
    private static int greaterPart(int question) {
        int greater = 0;
        for (int answer = 0; answer < 2; answer++) {
            NoiseKeys keys = new NoiseKeys();
            keys.pair(15, 1);
            keys.pair(0, 0);
            keys.pair(question, answer);
            greater = Math.max(greater, keys.planes());
        }
        return greater;
    }

    private static void checksAreOnce() {
        NoiseKeys keys = new NoiseKeys();
        due.same("none such", -3, keys.check(4, 1));
        keys.pair(4, 1);
        keys.pair(5, 0);
        due.same("passed", 1, keys.check(4, 1));
        due.same("USED", 1, keys.count(7));
        due.same("once", -3, keys.check(4, 1));
        due.same("not passed", 0, keys.check(5, 1));
        due.same("once", -3, keys.check(5, 0));
        due.same("USED", 2, keys.count(7));
        due.same("PAIRS stay", 2, keys.count(6));
        due.same("seen again", 2, keys.pair(4, 1));
        due.same("it stays USED", -3, keys.check(4, 1));
        due.same("check(16, 0)", -1, keys.check(16, 0));
        due.same("check(-1, 0)", -1, keys.check(-1, 0));
        keys.pair(6, 1);
        due.same("no such answer", -1, keys.check(6, 2));
        due.same("no such answer", -1, keys.check(6, -1));
        due.same("it is not USED", 2, keys.count(7));
        due.same("check(6, 1)", 1, keys.check(6, 1));
        keys.pair(0, 0);
        due.same("check(0, 0)", 1, keys.check(0, 0));
        keys.pair(15, 1);
        due.same("check(15, 0)", 0, keys.check(15, 0));
        due.same("USED", 5, keys.count(7));
    }
}
