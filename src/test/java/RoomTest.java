import java.lang.management.ManagementFactory;
import java.lang.reflect.Array;
import java.lang.reflect.Field;
import java.lang.reflect.Modifier;
import java.util.IdentityHashMap;
import java.util.function.ToLongFunction;

/** All calls of a run share one room, so an object is small, and no call makes another one. */
public final class RoomTest {
    private static final int MOST_OBJECTS = 40;
    private static final int MOST_ELEMENTS = 500;
    private static final int CALLS = 1000;
    private static final Due due = new Due();

    private int elements = 0;
    private final IdentityHashMap<Object, Boolean> objects = new IdentityHashMap<>();

    public static void main(String[] args) throws IllegalAccessException {
        RoomTest room = new RoomTest();
        room.walk(full());
        due.same("objects and arrays are few", 1, room.objects.size() <= MOST_OBJECTS ? 1 : 0);
        due.same("fields and elements are few", 1, room.elements <= MOST_ELEMENTS ? 1 : 0);
        ofCellsAndCode();
        ofKeysAndGuesses();
        ofPairsAndReadings();
        due.end();
    }

    /** Counts what can be reached. */
    private void walk(Object object) throws IllegalAccessException {
        if (object == null || objects.put(object, true) != null) {
            return;
        }
        if (object.getClass().isArray()) {
            int length = Array.getLength(object);
            elements += length;
            for (int i = 0; i < length && object instanceof Object[]; i++) {
                walk(Array.get(object, i));
            }
            return;
        }
        for (Field field : object.getClass().getDeclaredFields()) {
            if (!Modifier.isStatic(field.getModifiers())) {
                elements++;
                field.setAccessible(true);
                if (!field.getType().isPrimitive()) {
                    walk(field.get(object));
                }
            }
        }
    }

    private static void ofCellsAndCode() {
        nothingMade("chip", keys -> keys.chip(1));
        nothingMade("set", keys -> keys.set(3, 1, 2));
        nothingMade("chance", keys -> keys.chance(3, 7));
        nothingMade("mask", keys -> keys.mask(1) + keys.mask(2));
        nothingMade("maskBy", keys -> keys.maskBy(40, 3) + keys.maskBy(0, 0));
        nothingMade("cells and row", keys -> keys.cells(14) + keys.row(3) + keys.row(5) + keys.row(6));
        nothingMade("distance", keys -> keys.distance());
        nothingMade("codeword", keys -> keys.codeword(63));
        nothingMade("mended", keys -> keys.mended(777));
        nothingMade("clear", keys -> keys.clear(777));
    }

    private static void ofKeysAndGuesses() {
        nothingMade("enrol", keys -> keys.enrol(3, 3));
        nothingMade("reading", keys -> keys.reading(0, 99));
        nothingMade("fail", keys -> keys.fail(0, 20));
        nothingMade("all", keys -> keys.all());
        nothingMade("lasts", keys -> keys.lasts(0, 2));
        nothingMade("guess", keys -> keys.guess(5));
        nothingMade("weight", keys -> keys.weight(5, true) + keys.weight(5, false));
        nothingMade("leak", keys -> keys.leak());
        nothingMade("even", keys -> keys.even(341, 0) + keys.even(341, 1));
        nothingMade("expected", keys -> keys.expected());
    }

    private static void ofPairsAndReadings() {
        nothingMade("pair and planes", keys -> keys.pair(keys.count(6), 1) + keys.planes());
        nothingMade("plane", keys -> keys.plane(4));
        nothingMade("foretold", keys -> keys.foretold(9));
        nothingMade("next", keys -> keys.next());
        nothingMade("check", keys -> keys.check(3, 1));
        nothingMade("whose", keys -> keys.whose(77));
        nothingMade("sure", keys -> keys.sure(77));
        nothingMade("apart", keys -> keys.apart());
        nothingMade("odd", keys -> keys.odd(2));
        nothingMade("count and a refusal", keys -> keys.count(5) + keys.count(13) + keys.row(0));
    }

    /** The machine itself may make a thing or two while it looks: an object for each call is far above that. */
    private static void nothingMade(String name, ToLongFunction<NoiseKeys> call) {
        NoiseKeys keys = full();
        call.applyAsLong(keys);
        long before = madeSoFar();
        for (int i = 0; i < CALLS; i++) {
            call.applyAsLong(keys);
        }
        long bytes = madeSoFar() - before;
        due.same(name + " makes an object (" + bytes + " bytes)", 0, bytes / (8 * CALLS));
    }

    /** 0 always where this machine does not count it. */
    private static long madeSoFar() {
        Object counter = ManagementFactory.getThreadMXBean();
        if (counter instanceof com.sun.management.ThreadMXBean) {
            return ((com.sun.management.ThreadMXBean) counter).getThreadAllocatedBytes(Thread.currentThread().getId());
        }
        return 0;
    }

    private static NoiseKeys full() {
        NoiseKeys keys = new NoiseKeys();
        keys.cells(10);
        for (int i = 0; i < 6; i++) {
            keys.row(3 << i);
        }
        for (int number = 0; number < 7; number++) {
            keys.chip(number * 113);
            keys.enrol(number, number * 9);
        }
        keys.set(1, 1, 3);
        keys.pair(0, 0);
        keys.pair(3, 1);
        return keys;
    }
}
