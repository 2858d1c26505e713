import java.lang.management.ManagementFactory;
import java.lang.reflect.Array;
import java.lang.reflect.Field;
import java.lang.reflect.Modifier;
import java.util.ArrayList;
import java.util.IdentityHashMap;
import java.util.List;
import java.util.Map;

/**
 * What a run makes is never given back in the one room of a run: some 600,000 objects and arrays, 7.3 million fields
 * and elements. What a new object takes up is counted, for a run may be nothing but new objects; of the other calls
 * bytes stand for both: a run that makes fewer bytes than its least share of either can't have made too many.
 */
public final class RoomTest {
    private static final int CALLS = 512;
    private static final long MOST_BYTES = 2000000;
    private static final long MOST_OBJECTS = 600000;
    private static final long MOST_ELEMENTS = 7300000;

    public static void main(String[] args) throws ReflectiveOperationException {
        Checks checks = new Checks("RoomTest");
        com.sun.management.ThreadMXBean bean =
            (com.sun.management.ThreadMXBean) ManagementFactory.getThreadMXBean();
        for (int kind = 0; kind < 12; kind++) {
            run(kind);
            long before = bean.getThreadAllocatedBytes(Thread.currentThread().getId());
            run(kind);
            long made = bean.getThreadAllocatedBytes(Thread.currentThread().getId()) - before;
            checks.isSo("kind " + kind + " makes " + made + " bytes", made < MOST_BYTES);
        }
        checkNewObject(checks);
        checks.close();
    }

    private static void checkNewObject(Checks checks) throws ReflectiveOperationException {
        Map<Object, Object> seen = new IdentityHashMap<>();
        List<Object> found = new ArrayList<>();
        note(new SoleGuest(), seen, found);
        long elements = 0;
        for (int i = 0; i < found.size(); i++) {
            elements += sizeOf(found.get(i), seen, found);
        }
        checks.isSo("a new object is " + found.size() + " objects", found.size() * CALLS < MOST_OBJECTS);
        checks.isSo("a new object is " + elements + " fields and elements", elements * CALLS < MOST_ELEMENTS);
    }

    private static void note(Object object, Map<Object, Object> seen, List<Object> found) {
        if (object != null && seen.put(object, object) == null) {
            found.add(object);
        }
    }

    private static long sizeOf(Object object, Map<Object, Object> seen, List<Object> found)
        throws ReflectiveOperationException {
        Class<?> kind = object.getClass();
        if (kind.isArray()) {
            int length = Array.getLength(object);
            for (int i = 0; i < length && !kind.getComponentType().isPrimitive(); i++) {
                note(Array.get(object, i), seen, found);
            }
            return length;
        }
        long fields = 0;
        for (Field field : kind.getDeclaredFields()) {
            if (!Modifier.isStatic(field.getModifiers())) {
                fields++;
                field.setAccessible(true);
                if (!field.getType().isPrimitive()) {
                    note(field.get(object), seen, found);
                }
            }
        }
        return fields;
    }

    private static void run(int kind) {
        SoleGuest x = new SoleGuest();
        int calls = 0;
        for (int h = 0; h < 5; h++) {
            x.host(h);
        }
        for (int g = 0; g < 6; g++) {
            x.guest(g);
        }
        for (calls = 11; calls < CALLS; calls++) {
            if (calls % 2 == 0) {
                x.base(calls % 5, calls % 6, calls % 90);
            } else {
                call(x, kind, calls);
            }
        }
    }

    private static void call(SoleGuest x, int kind, int i) {
        switch (kind) {
            case 0:
                x.steady();
                break;
            case 1:
                x.most(1);
                break;
            case 2:
                x.breaker();
                break;
            case 3:
                x.rounds(0);
                break;
            case 4:
                x.alike(1);
                break;
            case 5:
                x.restless();
                break;
            case 6:
                x.manner(i % 5, i % 6);
                x.year(i, 40);
                break;
            case 7:
                x.image(i & 1);
                x.back(i & 1);
                break;
            case 8:
                // "bars;bars;bars;bars;", so that many a law is read and given up again
                x.feed(0x62617273, 0x3b626172, 0x733b6261, 0x72733b62, 0x6172733b);
                x.law();
                break;
            case 9:
                x.image(0);
                x.feed(0x62617273, 0x20202020, 0x20202020, 0x20202020, 0x20202020);
                x.law();
                x.back(0);
                break;
            case 10:
                x.steadyOf(i % 3, i % 5);
                break;
            default:
                x.mean(SoleGuest.NONE);
        }
    }
}
