import java.util.function.Supplier;
import java.util.function.ToLongFunction;

/** Two objects brought to the same state, one of which is called once more: what tells them apart afterwards. */
final class Untouched {
    private Untouched() {
    }

    /** The call answers so and changes nothing but how many REFUSALS of that number there were (0: of none). */
    static void by(Due due, Supplier<NoiseKeys> state, int number, String answer, String name,
            ToLongFunction<NoiseKeys> call) {
        NoiseKeys left = state.get();
        NoiseKeys called = state.get();
        due.thrown(name, answer, () -> call.applyAsLong(called));
        for (int refusal = 1; refusal <= 6; refusal++) {
            int more = refusal == -number ? 1 : 0;
            due.same(name + ": REFUSALS -" + refusal, left.count(10 + refusal) + more, called.count(10 + refusal));
        }
        due.same(name + ": what there is", told(left), told(called));
    }

    /** All that calls tell of an object; it is of no use behind it. */
    private static String told(NoiseKeys keys) {
        StringBuilder text = new StringBuilder();
        for (int what = 0; what < 8; what++) {
            text.append(keys.count(what)).append(' ');
        }
        for (int key = 0; key < 64; key++) {
            text.append(keys.codeword(key)).append(' ');
        }
        for (int chip = 0; chip < 8; chip++) {
            text.append(keys.reading(chip, 0)).append(' ').append(keys.reading(chip, 513)).append(' ');
            text.append(keys.whose(chip * 113)).append(' ').append(keys.lasts(chip, 1)).append(' ');
        }
        for (int cell = 0; cell < 10; cell++) {
            text.append(keys.odd(cell)).append(' ');
        }
        for (int question = 0; question < 16; question++) {
            text.append(keys.foretold(question)).append(' ');
        }
        text.append(keys.planes()).append(' ').append(keys.next()).append(' ').append(keys.plane(1)).append(' ');
        for (int question = 0; question < 16; question++) {
            text.append(keys.check(question, 1)).append(' ');
        }
        for (int cell = 0; cell < 14; cell++) {
            for (int what = 0; what < 3; what++) {
                text.append(keys.set(cell, what, 1)).append(' ');
            }
        }
        return text.toString();
    }
}
