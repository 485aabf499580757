import com.sun.management.ThreadMXBean;
import java.lang.management.ManagementFactory;
import java.lang.reflect.Array;
import java.lang.reflect.Field;
import java.lang.reflect.Modifier;
import java.util.IdentityHashMap;

/** All calls of a run share one room: an object must be small, and its calls must make nothing. */
public final class RoomTest {
    private static int objects = 0;
    private static int elements = 0;

    private RoomTest() {
    }

    public static void main(String[] args) throws IllegalAccessException {
        count(new SwitchTower(), new IdentityHashMap<>());
        System.out.println("  an object: " + objects + " objects and arrays, " + elements + " fields and elements");
        Due.check("an object is made of too many objects: " + objects, objects <= 200);
        Due.check("an object has too many elements: " + elements, elements <= 50000);
        callsMakeNothing();
        longUse();
        Due.end();
    }

    private static void count(Object at, IdentityHashMap<Object, Object> seen) throws IllegalAccessException {
        if (at == null || seen.put(at, at) != null) {
            return;
        }
        objects++;
        Class<?> type = at.getClass();
        if (type.isArray()) {
            elements += Array.getLength(at);
            for (int i = 0; i < Array.getLength(at) && !type.getComponentType().isPrimitive(); i++) {
                count(Array.get(at, i), seen);
            }
            return;
        }
        for (Field field : type.getDeclaredFields()) {
            if (!Modifier.isStatic(field.getModifiers())) {
                elements++;
                field.setAccessible(true);
                if (!field.getType().isPrimitive()) {
                    count(field.get(at), seen);
                }
            }
        }
    }

    /** Bytes that the thread makes are counted behind a first round, in which the classes are loaded. */
    private static void callsMakeNothing() {
        ThreadMXBean counter = (ThreadMXBean) ManagementFactory.getThreadMXBean();
        SwitchTower[] benches = {Benches.grigorchuk(), Benches.lamplighter(), Benches.eraser(), Benches.odometer(4)};
        long checksum = 0;
        for (int round = 0; round < 2; round++) {
            long before = counter.getThreadAllocatedBytes(Thread.currentThread().getId());
            for (int turn = 0; turn < 16; turn++) {
                for (SwitchTower x : benches) {
                    checksum += askAll(x);
                }
            }
            long made = counter.getThreadAllocatedBytes(Thread.currentThread().getId()) - before;
            Due.check("calls make " + made + " bytes", round == 0 || made < 20000);
        }
        Due.check("answers", checksum != 0);
    }

    /** Beyond what is promised, but what is used again and again must not wear out on the way. */
    private static void longUse() {
        SwitchTower x = Benches.grigorchuk();
        x.put(0, 2, 3, 0, 0);
        x.put(1, 4, 0, 0, 0);
        boolean right = true;
        for (int i = 0; i < 600000; i++) {
            right &= x.same(0, 1) == 1;
        }
        Due.check("same answers otherwise after a while", right);
    }

    private static long askAll(SwitchTower x) {
        long sum = x.sheet(0, 2, 40) + x.cell(0, 1, 1) + x.told(0, 1) + x.lose(0) + x.lose(0) + x.sheet(9, 0, 0);
        sum += x.wipe(0) + x.put(0, 1, 1, 1, 1) + x.put(0, -1, 1, 0, 0) + x.times(0, 0, 1) + x.turn(0, 2);
        sum += x.act(1, 16) + x.part(1, 16, 3) + x.size(3) + x.token(3, 0) + x.many(3) + x.of(0, 0, 2);
        sum += x.same(0, 1) + x.apart(0, 1) + x.heap(1) + x.least(1) + x.order(1, 4) + x.orbits(4) + x.orbit(256);
        sum += x.far(256, 261) + x.way(256, 261, 0) + x.reach(256) + x.group(2) + x.change(0, 0, x.of(0, 0, 0), x.of(0, 0, 1));
        sum += x.growth(2) + x.laws(2) + x.law(2, 0, 4) + x.fall(1) + x.fallen(2, 1, 5) + x.state(9, 0) + x.letters(9);
        return sum;
    }
}
