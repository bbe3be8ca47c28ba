import java.lang.management.ManagementFactory;
import java.lang.reflect.Array;
import java.lang.reflect.Field;
import java.lang.reflect.Modifier;
import java.util.ArrayDeque;
import java.util.Deque;
import java.util.IdentityHashMap;
import java.util.Map;

/** The room: an object is made small, no call makes another, and 512 of the dearest calls end soon. */
public final class RoomTest {
    private static final long MOST_ELEMENTS = 100_000, MOST_OBJECTS = 300, MOST_BYTES = 100_000, MOST_SECONDS = 60;

    private static int wrong;
    private static long sum;

    private static void due(boolean right, String what) {
        if (!right) {
            wrong++;
            System.out.println(what);
        }
    }

    /** All objects that can be come to, and their fields and elements. */
    private static void size() throws IllegalAccessException {
        Map<Object, Boolean> seen = new IdentityHashMap<>();
        Deque<Object> open = new ArrayDeque<>();
        open.push(new RefusedOnce());
        long elements = 0;
        while (!open.isEmpty()) {
            Object each = open.pop();
            if (seen.put(each, true) != null) continue;
            if (each.getClass().isArray()) {
                int length = Array.getLength(each);
                elements += length;
                boolean isOfObjects = !each.getClass().getComponentType().isPrimitive();
                for (int i = 0; i < length && isOfObjects; i++) open.push(Array.get(each, i));
                continue;
            }
            for (Field field : each.getClass().getDeclaredFields()) {
                if (Modifier.isStatic(field.getModifiers())) continue;
                elements++;
                field.setAccessible(true);
                if (!field.getType().isPrimitive()) open.push(field.get(each));
            }
        }
        due(elements <= MOST_ELEMENTS, elements + " fields and elements");
        due(seen.size() <= MOST_OBJECTS, seen.size() + " objects");
    }

    private static RefusedOnce dear() {
        RefusedOnce x = new RefusedOnce();
        for (int i = 0; i < 6; i++) {
            x.person(10);
            x.mend(i, 1, 9);
            x.mend(i, 3, 5);
        }
        String law = "p%7+(w*3+c*5-h)%5-n+(b>3&w<c|p=w)*2;p?(w+c+p+b+h+n)/7-(w-c)*(w-c)%3+!p--!-(p+w*(c+b*(h+1)));1";
        for (int i = 0; i < law.length(); i++) x.feed(law.charAt(i));
        due(x.law() == 1, "the law is none");
        x.row(0, 0, 20);
        for (int i = 0; i < 20; i++) x.put(0, i, 20 * (i % 6) + 2 * ((i + 1 + i / 6) % 6));
        x.row(1, 0, 0);
        x.row(2, 0, 20);
        for (int i = 0; i < 20; i++) x.put(2, i, i / 2 % 2 == i % 2 ? i % 6 : (i + 3) % 6);
        x.row(3, 0, 12);
        for (int i = 0; i < 12; i++) x.put(3, i, i % 2 == 0 ? 9 : 11);
        for (int kind = 0; kind < 8; kind++) x.body(kind);
        return x;
    }

    private static void callAll(RefusedOnce x, int i) {
        sum += x.behind(0, i % 2 == 0 ? 1 : 3, i % 4) + x.round(2, -1) + x.cleanest(2) + x.drawn(i, 3030, i % 2);
        sum += x.pay(1, 8, i % 9, 0) + x.mean(12, 8, 0) + x.stays(2, i % 2) + x.evening(0, 20, i % 3);
        sum += x.later(0, 20, i % 6, i % 3) + x.hands(2, 0) + x.test(0, 4, 0) + x.enough(0, 12) + x.honest(0, 92, 0);
        sum += x.dowry(63, 50) + x.richest(i % 6) + x.odds(1) + x.act(i % 8, 3, i) + x.trace(3) + x.count(1);
        sum += x.mend(0, 2, i % 12) + x.undo() + x.redo() + x.image() + x.offer(1, 0) + x.back() + x.hour() + x.mint(0);
        sum += x.row(5, 0, 60) + x.put(5, 1, i) + x.element(5, 1) + x.shift(5, 0, 5, 1, 50) + x.keep(4, 1) + x.taken(4, 0);
        sum += x.people(2, 0, 1) + x.feed('+') + x.law() + x.led(0) + x.of(0, 7) + x.body(i % 8) + x.person(1);
    }

    private static void calls() {
        com.sun.management.ThreadMXBean threads = (com.sun.management.ThreadMXBean) ManagementFactory.getThreadMXBean();
        RefusedOnce warm = dear();
        callAll(warm, 0);
        RefusedOnce x = dear();
        long me = Thread.currentThread().getId();
        threads.getThreadAllocatedBytes(me);
        long start = System.nanoTime();
        long before = threads.getThreadAllocatedBytes(me);
        for (int i = 0; i < 512; i++) callAll(x, i);
        long bytes = threads.getThreadAllocatedBytes(me) - before;
        long seconds = (System.nanoTime() - start) / 1_000_000_000L;
        due(bytes <= MOST_BYTES, bytes + " bytes were made by calls");
        due(seconds <= MOST_SECONDS, seconds + " seconds");
    }

    public static void main(String[] args) throws IllegalAccessException {
        size();
        calls();
        System.out.println(wrong == 0 ? "there is room (" + sum + ")" : wrong + " times there is no room");
        if (wrong != 0) System.exit(1);
    }
}
