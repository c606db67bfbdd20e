import java.lang.management.ManagementFactory;
import java.lang.reflect.InvocationTargetException;
import java.lang.reflect.Method;
import java.lang.reflect.Modifier;
import java.util.ArrayList;
import java.util.Comparator;
import java.util.List;
import java.util.Random;

/** What a run of 512 calls takes of the room, and that no arguments make the machine throw. */
public final class RoomTest {
    private static final Checks CHECKS = new Checks();
    private static final long[] EDGES = {Long.MIN_VALUE, Integer.MIN_VALUE, -2, -1, 0, 1, 2, 3, 4, 5, 7, 8, 9, 10, 11,
        20, 40, 41, 60, 61, 99, 100, 255, 256, 1023, 1024, 99999, 100000, Integer.MAX_VALUE, 1L << 60, Long.MAX_VALUE};

    public static void main(String[] args) throws Exception {
        room();
        wildCalls();
        CHECKS.end("RoomTest");
    }

    private static long bytes() {
        com.sun.management.ThreadMXBean bean =
                (com.sun.management.ThreadMXBean) ManagementFactory.getThreadMXBean();
        return bean.getThreadAllocatedBytes(Thread.currentThread().getId());
    }

    private static void room() {
        CHECKS.part("room");
        // the first object brings its classes with it, which are none of its room
        new RingsOff().status(0);
        long ahead = bytes();
        RingsOff x = new RingsOff();
        long made = bytes() - ahead;
        CHECKS.holds("an object takes " + made + " bytes", made < 60_000);
        x.bar(2, 10);
        x.bar(5, 6);
        x.row(0, 2, 10);
        long before = bytes();
        int sum = 0;
        for (int k = 0; k < 60; k++) {
            sum += x.chance(0, 5, 20) + x.pictures(0, 10, 0) + x.parts(0) + x.longest(1) + x.way(0, 0, 300)
                    + x.lock(99999) + x.goes(0, k, 60) + x.play(0, 60);
        }
        sum += x.bars() + x.image() + x.back();
        long taken = bytes() - before;
        CHECKS.holds("calls take nothing, but took " + taken + " bytes and gave " + sum, taken < 4_000);
    }

    private static void wildCalls() throws Exception {
        CHECKS.part("wild calls");
        Random random = new Random(5);
        List<Method> methods = new ArrayList<>();
        for (Method method : RingsOff.class.getDeclaredMethods()) {
            if (Modifier.isPublic(method.getModifiers())) {
                methods.add(method);
            }
        }
        methods.sort(Comparator.comparing(Method::getName));
        for (int run = 0; run < 300 && !CHECKS.hasMany(3); run++) {
            RingsOff x = new RingsOff();
            for (int k = 0; k < 512; k++) {
                wildCall(x, methods.get(random.nextInt(methods.size())), random);
            }
        }
    }

    private static void wildCall(RingsOff x, Method method, Random random) throws Exception {
        Object[] told = new Object[method.getParameterCount()];
        for (int i = 0; i < told.length; i++) {
            long v = random.nextInt(3) == 0 ? EDGES[random.nextInt(EDGES.length)] : random.nextInt(6);
            told[i] = method.getParameterTypes()[i] == long.class ? (Object) v : (Object) (int) v;
        }
        try {
            method.invoke(x, told);
            CHECKS.holds("", true);
        } catch (InvocationTargetException thrown) {
            CHECKS.holds(method.getName() + " " + java.util.Arrays.toString(told) + " threw " + thrown.getCause(),
                    false);
        }
    }
}
