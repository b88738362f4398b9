import java.lang.management.ManagementFactory;
import java.lang.reflect.Array;
import java.lang.reflect.Field;
import java.lang.reflect.Modifier;
import java.util.ArrayDeque;
import java.util.Collections;
import java.util.Deque;
import java.util.IdentityHashMap;
import java.util.Random;
import java.util.Set;

/** All calls of one run live in one room: an object is small, and no call makes anything. */
public final class RoomTests {
    private static final int MOST_OBJECTS = 120;
    private static final int MOST_CELLS = 1200;
    /** Room for what the machine itself may make while it counts; a row a call would be far more. */
    private static final int SPARE_BYTES = 200;
    private static final Check CHECK = new Check();

    public static void main(String[] args) throws Exception {
        sizeOfOne();
        nothingIsMade();
        CHECK.end("RoomTests");
    }

    /** Walks from field to field and counts objects and arrays, fields and elements. */
    private static void sizeOfOne() throws Exception {
        Set<Object> seen = Collections.newSetFromMap(new IdentityHashMap<>());
        Deque<Object> open = new ArrayDeque<>();
        open.add(new HeardBackward());
        int cells = 0;
        while (!open.isEmpty()) {
            Object o = open.remove();
            if (!seen.add(o)) {
                continue;
            }
            if (o.getClass().isArray()) {
                cells += Array.getLength(o);
                for (int i = 0; i < Array.getLength(o) && !o.getClass().getComponentType().isPrimitive(); i++) {
                    open.add(Array.get(o, i));
                }
                continue;
            }
            for (Field f : o.getClass().getDeclaredFields()) {
                if (!Modifier.isStatic(f.getModifiers())) {
                    cells++;
                    f.setAccessible(true);
                    if (!f.getType().isPrimitive()) {
                        open.add(f.get(o));
                    }
                }
            }
        }
        System.out.println("RoomTests: an object is made of " + seen.size() + " objects and arrays, " + cells + " cells");
        CHECK.holds("objects and arrays: " + seen.size(), seen.size() <= MOST_OBJECTS);
        CHECK.holds("fields and elements: " + cells, cells <= MOST_CELLS);
    }

    private static void nothingIsMade() {
        com.sun.management.ThreadMXBean threads = (com.sun.management.ThreadMXBean) ManagementFactory.getThreadMXBean();
        Random random = new Random(5);
        for (int i = 0; i < 50; i++) {
            HeardBackward x = Check.laidOut(Texts.any(random));
            HeardBackward y = Check.written("s0,0,0");
            everyCall(x, i);
            writeAndWipe(y);
            long before = threads.getCurrentThreadAllocatedBytes();
            long none = threads.getCurrentThreadAllocatedBytes() - before;
            before = threads.getCurrentThreadAllocatedBytes();
            everyCall(x, i);
            writeAndWipe(y);
            long made = threads.getCurrentThreadAllocatedBytes() - before - none;
            CHECK.holds("bytes made by all calls: " + made, made <= SPARE_BYTES);
        }
    }

    private static int writeAndWipe(HeardBackward x) {
        int sum = x.wipe() + x.fault() + x.lay();
        for (int i = 0; i < 201; i++) {
            sum += x.write('s');
        }
        return sum + x.fault();
    }

    private static int everyCall(HeardBackward x, int z) {
        int sum = x.fault() + x.lay() + x.statement(0, 4) + x.strike(3) + x.argue(0);
        for (int a = 0; a < 10; a++) {
            sum += x.argue(a) + x.strike(a);
        }
        sum += x.next() + x.argued(1) + x.trial(0) + x.trial(1) + x.trial(2) + x.keep() + x.drop() + x.undo();
        for (int k = -2; k < 10; k++) {
            sum += x.shortest(0, k) + x.laid(0, k) + x.count(k) + x.odds(0, k, 0) + x.who(k);
        }
        for (int what = 0; what < 2; what++) {
            sum += x.both(0, 0, what) + x.byTurns(0, what) + x.look(0, what) + x.trialBy(z, 0, what);
        }
        return sum + x.chains(0) + x.nights(0) + x.needed(0) + x.forgotten() + x.days(0) + x.fits(0) + x.back();
    }
}
