import com.sun.management.ThreadMXBean;
import java.lang.management.ManagementFactory;
import java.lang.reflect.Field;
import java.lang.reflect.Modifier;
import java.util.IdentityHashMap;
import java.util.Map;

/** All calls of a run share one room: an object is small, and its calls make nothing. */
public final class RoomTest {
    private static final int MOST_OBJECTS = 100, MOST_ELEMENTS = 4000;
    private static final String TEXT = "law 13 7;speaker 3 9;speaker 8 2;yarn vow 0 4;yarn oath 1 3;yarn debt 1 5;"
        + "yarn hope 0 9;yarn lie 1 8;yarn vow 1 6;yarn oath 1 2;yarn hope 0 7;yarn debt 1 1;";

    public static void main(String[] args) throws Exception {
        VowRope x = new VowRope();
        useAll(x);
        boolean right = holdsLittle(x) & makesNothing(x);
        if (!right) {
            System.exit(1);
        }
    }

    private static boolean holdsLittle(VowRope x) throws Exception {
        Map<Object, Object> seen = new IdentityHashMap<>();
        int elements = weigh(x, seen);
        System.out.println("an object holds " + seen.size() + " objects, " + elements + " fields and elements");
        return seen.size() <= MOST_OBJECTS && elements <= MOST_ELEMENTS;
    }

    private static boolean makesNothing(VowRope x) {
        ThreadMXBean threads = (ThreadMXBean) ManagementFactory.getThreadMXBean();
        long id = Thread.currentThread().getId();
        for (int k = 0; k < 20; k++) {
            useAll(x);
        }
        long ahead = threads.getThreadAllocatedBytes(id);
        for (int k = 0; k < 200; k++) {
            useAll(x);
        }
        long bytes = threads.getThreadAllocatedBytes(id) - ahead;
        System.out.println("200 rounds of all calls made " + bytes + " bytes");
        return bytes < 20000;
    }

    private static void useAll(VowRope x) {
        x.row(0, 2, 40);
        x.set(0, 1, 50);
        x.copy(0, 0, 0, 1, 30);
        x.row(1, 0, 1);
        x.drop(1);
        for (int k = 0; k < TEXT.length(); k++) {
            x.feed(TEXT.charAt(k), 1);
        }
        x.walk();
        for (int y = 0; y < 9; y++) {
            x.lay(y, y % 3);
            x.pitch(y);
            x.splice(y);
            x.kind(y);
            x.as(y, 1);
            x.ask(y, 0);
            x.ask(y, 1);
            x.trace(y);
            x.yarn(y, 2);
            x.best(y);
        }
        for (int load = 0; load < 1000; load += 100) {
            x.cheapest(load, 1);
            x.odds(load, 0);
            x.whose(load, load + 90);
        }
        x.image(0);
        x.image(1);
        x.pull(5, 5);
        x.vow(0, 1);
        x.year(3);
        x.undo();
        x.bears(3);
        x.risk(0, 0, 40);
        x.geese(511);
        x.fathoms(0);
        x.restore(0);
        x.count(3);
        x.status();
        x.fault();
    }

    private static int weigh(Object thing, Map<Object, Object> seen) throws Exception {
        if (thing == null || seen.put(thing, thing) != null) {
            return 0;
        }
        Class<?> c = thing.getClass();
        if (c.isArray()) {
            int length = java.lang.reflect.Array.getLength(thing);
            int sum = length;
            for (int k = 0; k < length && !c.getComponentType().isPrimitive(); k++) {
                sum += weigh(java.lang.reflect.Array.get(thing, k), seen);
            }
            return sum;
        }
        int sum = 0;
        for (Field f : c.getDeclaredFields()) {
            if (Modifier.isStatic(f.getModifiers())) {
                continue;
            }
            sum++;
            if (!f.getType().isPrimitive()) {
                f.setAccessible(true);
                sum += weigh(f.get(thing), seen);
            }
        }
        return sum;
    }
}
