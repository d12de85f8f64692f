import java.lang.reflect.Method;
import java.lang.reflect.Modifier;
import java.util.Arrays;

/** Every call with every mix of numbers about its edges and at the ends of int, against the plain reading. */
public final class ExtremesTest {
    private static final int[] FEW = {Integer.MIN_VALUE, -1, 0, 1, 7, 14, Integer.MAX_VALUE};
    private static final int[] MANY = {Integer.MIN_VALUE, Integer.MIN_VALUE + 1, -65536, -9, -1, 0, 1, 2, 3, 4, 5, 7, 8,
        13, 14, 15, 16, 40, 41, 63, 64, Integer.MAX_VALUE};
    private static final int[] MOST = {Integer.MIN_VALUE, Integer.MIN_VALUE + 1, -65536, -16384, -257, -256, -32, -9, -1,
        0, 1, 2, 3, 4, 5, 6, 7, 8, 9, 10, 11, 12, 13, 14, 15, 16, 17, 18, 31, 32, 33, 39, 40, 41, 63, 64, 127, 128, 255,
        256, 257, 512, 1023, 1024, 16383, 16384, 65535, 65536, 1 << 30, Integer.MAX_VALUE - 1, Integer.MAX_VALUE};

    private static final Due due = new Due();

    public static void main(String[] args) {
        for (Method method : NoiseKeys.class.getDeclaredMethods()) {
            if (Modifier.isPublic(method.getModifiers())) {
                for (int state = 0; state < 5; state++) {
                    ask(method, state);
                }
            }
        }
        due.end();
    }

    private static void ask(Method method, int state) {
        NoiseKeys keys = new NoiseKeys();
        Plain plain = new Plain();
        bring(keys, plain, state);
        Class<?>[] types = method.getParameterTypes();
        int[] numbers = types.length < 2 ? MOST : types.length == 2 ? MANY : FEW;
        int mixes = 1;
        for (int i = 0; i < types.length; i++) {
            mixes *= numbers.length;
        }
        for (int mix = 0; mix < mixes; mix++) {
            Object[] arguments = new Object[types.length];
            int rest = mix;
            for (int i = 0; i < types.length; i++) {
                int number = numbers[rest % numbers.length];
                rest /= numbers.length;
                arguments[i] = types[i] == boolean.class ? (Object) (number % 2 == 0) : (Object) number;
            }
            both(keys, plain, method.getName(), arguments);
        }
    }

    /** 0 new, 1 four CELLS, 2 all masked, 3 full, 4 fourteen CELLS without PLANES. */
    private static void bring(NoiseKeys keys, Plain plain, int state) {
        int[] cells = {8, 4, 8, 8, 14};
        if (state > 0) {
            both(keys, plain, "cells", cells[state]);
            both(keys, plain, "mask", state == 2 ? 255 : state == 3 ? 3 : 0);
            for (int i = 0; i < 6; i++) {
                both(keys, plain, "row", 1 << i + 2);
            }
            for (int number = 0; number < (state == 3 ? 8 : 2); number++) {
                both(keys, plain, "chip", number * 2);
                both(keys, plain, "enrol", number, number);
            }
        }
        if (state == 4) {
            int[] questions = {0, 15, 3, 12};
            for (int i = 0; i < 4; i++) {
                both(keys, plain, "pair", questions[i], i < 2 ? 1 : 0);
            }
        }
    }

    private static void both(NoiseKeys keys, Plain plain, String name, Object... arguments) {
        String want = Calls.answer(plain, name, arguments);
        due.same(name + Arrays.toString(arguments), want, Calls.answer(keys, name, arguments));
    }
}
