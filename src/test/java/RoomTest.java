import java.lang.management.ManagementFactory;
import java.lang.reflect.Array;
import java.lang.reflect.Field;
import java.lang.reflect.Modifier;
import java.util.Collections;
import java.util.IdentityHashMap;
import java.util.Set;

/** All calls of one run live in one room: an object is small, and its calls make nothing. */
public final class RoomTest {
    private static final Due DUE = new Due("RoomTest");
    private static final com.sun.management.ThreadMXBean THREADS =
        (com.sun.management.ThreadMXBean) ManagementFactory.getThreadMXBean();
    private static long objects;
    private static long elements;

    public static void main(String[] args) throws Exception {
        size();
        callsMakeNothing();
        DUE.end();
    }

    /** Even a run that makes an object in each of its 512 calls stays below a third of 7.3 million. */
    private static void size() throws Exception {
        DoubleLedger x = new DoubleLedger();
        count(x);
        DUE.is("a new object: objects below 60", objects < 60 ? 1 : objects, 1);
        DUE.is("a new object: elements below 3500", elements < 3500 ? 1 : elements, 1);
        x.image();
        count(x);
        DUE.is("with an image: objects below 100", objects < 100 ? 1 : objects, 1);
        DUE.is("with an image: elements below 6000", elements < 6000 ? 1 : elements, 1);
    }

    private static void count(Object from) throws Exception {
        objects = 0;
        elements = 0;
        count(from, Collections.newSetFromMap(new IdentityHashMap<>()));
    }

    private static void count(Object from, Set<Object> seen) throws Exception {
        if (from == null || !seen.add(from)) {
            return;
        }
        objects++;
        if (from.getClass().isArray()) {
            elements += Array.getLength(from);
            return;
        }
        for (Field f : from.getClass().getDeclaredFields()) {
            if (!Modifier.isStatic(f.getModifiers())) {
                elements++;
                f.setAccessible(true);
                if (!f.getType().isPrimitive()) {
                    count(f.get(from), seen);
                }
            }
        }
    }

    private static void callsMakeNothing() {
        DoubleLedger warm = Due.small();
        warm.image();
        long due = work(warm);
        DoubleLedger x = Due.small();
        x.image();
        long before = THREADS.getThreadAllocatedBytes(Thread.currentThread().getId());
        long got = work(x);
        long made = THREADS.getThreadAllocatedBytes(Thread.currentThread().getId()) - before;
        DUE.is("bytes made by some 400 calls below 2000", made < 2000 ? 1 : made, 1);
        DUE.is("the same answers", got, due);
    }

    private static long work(DoubleLedger x) {
        long sum = 0;
        for (int i = 0; i < 20; i++) {
            sum += x.begin() + x.posting(3, 5) + x.posting(4, -5) + x.post() + x.reverse(2 * i) + x.days(1);
            sum += x.rate(1, i, 3, 7) + x.value(0, i, 0) + x.real(3, i, 2) + x.gain(3, 1, 0, i, 1) + x.line(3, -1, 3);
            sum += x.spell(i) + x.list(1, 40) + x.lay(1, 3) + x.judge(1, 3) + x.image() + x.undo() + x.audit();
            sum += x.feed('1') + x.feed(' ') + x.feed('5') + x.read();
        }
        return sum;
    }
}
