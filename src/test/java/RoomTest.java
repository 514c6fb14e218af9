import com.sun.management.ThreadMXBean;
import java.lang.management.ManagementFactory;
import java.lang.reflect.Array;
import java.lang.reflect.Field;
import java.lang.reflect.Modifier;
import java.util.ArrayDeque;
import java.util.Collections;
import java.util.Deque;
import java.util.IdentityHashMap;
import java.util.Random;
import java.util.Set;

/** No call throws, whatever its arguments, and 512 calls make little: all of a run live in one room. */
public final class RoomTest {
    private static final Due DUE = new Due();

    private RoomTest() {
    }

    public static void main(String[] args) throws IllegalAccessException {
        newObject();
        wildCalls();
        dearCalls();
        DUE.close();
    }

    /** If each of 512 calls made an object, they still had to fit: 600,000 objects, 7.3 million elements. */
    private static void newObject() throws IllegalAccessException {
        DUE.part("a new object's room");
        Set<Object> seen = Collections.newSetFromMap(new IdentityHashMap<>());
        Deque<Object> left = new ArrayDeque<>();
        left.add(new GriefWood());
        long elements = 0;
        while (!left.isEmpty()) {
            Object o = left.remove();
            if (!seen.add(o)) {
                continue;
            }
            Class<?> c = o.getClass();
            if (c.isArray()) {
                elements += Array.getLength(o);
                for (int i = 0; i < Array.getLength(o); i++) {
                    if (!c.getComponentType().isPrimitive()) {
                        left.add(Array.get(o, i));
                    }
                }
                continue;
            }
            for (Field f : c.getDeclaredFields()) {
                if (!Modifier.isStatic(f.getModifiers())) {
                    elements++;
                    f.setAccessible(true);
                    if (!f.getType().isPrimitive() && f.get(o) != null) {
                        left.add(f.get(o));
                    }
                }
            }
        }
        System.out.println("a new object: " + seen.size() + " objects and arrays, " + elements + " elements");
        DUE.yes("objects " + seen.size(), seen.size() <= 300);
        DUE.yes("elements " + elements, elements <= 10000);
    }

    private static long made() {
        return ((ThreadMXBean) ManagementFactory.getThreadMXBean()).getThreadAllocatedBytes(
            Thread.currentThread().getId());
    }

    private static void wildCalls() {
        DUE.part("wild calls");
        Random chance = new Random(7);
        int[] edges = {Integer.MIN_VALUE, Integer.MAX_VALUE, -1, 0, 1, 7, 8, 9, 10, 60, 99, 400, -10000, 65536};
        for (int run = 0; run < 300; run++) {
            GriefWood w = new GriefWood();
            for (int i = 0; i < 512; i++) {
                String name = Calls.NAMES[chance.nextInt(Calls.NAMES.length)];
                int[] a = new int[5];
                for (int k = 0; k < 5; k++) {
                    a[k] = chance.nextInt(3) == 0 ? chance.nextInt() : edges[chance.nextInt(edges.length)];
                    a[k] = chance.nextInt(3) == 0 ? chance.nextInt(12) : a[k];
                }
                try {
                    Calls.call(w, name, a);
                } catch (RuntimeException e) {
                    DUE.yes(name + " threw " + e, false);
                    return;
                }
            }
        }
        DUE.yes("none threw", true);
    }

    /** The bytes that 512 of each call make, with all told that can be. */
    private static void dearCalls() {
        DUE.part("dear calls");
        GriefWood w = new GriefWood();
        for (int i = 0; i < 10; i++) {
            w.seeker(90, i % 8, i % 7);
            w.part(9);
            w.height(i);
            w.third(i + 1);
        }
        Due.tell(w, 1, "on 0 seeker 0 lead 20;".repeat(16));
        Due.tell(w, 3, "on 0 table 1 pays 1;".repeat(16));
        Due.tell(w, 0, "draws x+".concat("1+".repeat(150)).concat("1;stops 600;"));
        String[] dear = {"mornings", "goes", "led", "of", "who", "through", "meeting", "stands", "share", "cut", "pairs",
            "eggs", "season", "hollow", "three", "pounds", "round", "rounds", "halves", "song", "spades", "game", "image",
            "act", "undo", "feed", "text", "look"};
        int[][] asked = {{60}, {60, 1}, {0, 60, 1}, {1, 1, 10}, {0, 6}, {1}, {1}, {1}, {1, 1}, {12, 1}, {1},
            {500, 8, 1}, {45, 34, 5, 1}, {4}, {1}, {0}, {20, 20, 399}, {20, 20, 10, 10}, {1000, 1}, {30, 1}, {1},
            {155555}, {1}, {0, 0}, {}, {1, 2, 3, 4, 5}, {0}, {1}};
        for (int i = 0; i < dear.length; i++) {
            // Once ahead of the count, for what the machine itself makes at a first call.
            Calls.call(w, dear[i], asked[i]);
            long before = made();
            for (int k = 0; k < 512; k++) {
                Calls.call(w, dear[i], asked[i]);
            }
            long each = (made() - before) / 512;
            DUE.yes(dear[i] + " makes " + each + " bytes", each <= 1000);
        }
    }
}
