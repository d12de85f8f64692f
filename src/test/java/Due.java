/** Keeps count of answers that are not the ones due; each test ends by it. */
final class Due {
    /** A call that may throw. */
    interface Call {
        long answer();
    }

    private int asked = 0;
    private int wrong = 0;

    void same(String what, long want, long got) {
        same(what, Long.toString(want), Long.toString(got));
    }

    void same(String what, String want, String got) {
        asked++;
        if (!want.equals(got)) {
            wrong++;
            System.out.println(what + " answered " + got + ", due is " + want);
        }
    }

    void thrown(String what, String want, Call call) {
        same(what, want, told(call));
    }

    boolean allRight() {
        return wrong == 0;
    }

    void end() {
        System.out.println(asked + " answers, " + wrong + " not as due");
        if (wrong != 0) {
            System.exit(1);
        }
    }

    /** The answer, or the name of what was thrown behind "throws.". */
    static String told(Call call) {
        try {
            return Long.toString(call.answer());
        } catch (RuntimeException thrown) {
            return "throws." + thrown.getClass().getSimpleName();
        }
    }
}
