import java.lang.management.ManagementFactory;
import java.lang.reflect.Array;
import java.lang.reflect.Field;
import java.lang.reflect.Modifier;
import java.util.ArrayList;
import java.util.IdentityHashMap;
import java.util.List;
import java.util.Map;

/** All calls of one run live in one room: an object keeps little, and no call makes anything new. */
public final class RoomTest {
    /** A thousandth of what the room holds, so that a run may make hundreds of objects of the class. */
    private static final int MOST_OBJECTS = 600;
    private static final int MOST_ELEMENTS = 7300;

    private static int elements = 0;
    private static Map<Object, Boolean> seen = new IdentityHashMap<>();

    public static void main(String[] args) throws IllegalAccessException {
        EaveRoofs fresh = new EaveRoofs();
        measure(fresh);
        int objects = seen.size();
        int size = elements;
        Check.yes("objects: " + objects, objects <= MOST_OBJECTS);
        Check.yes("fields and elements: " + size, size <= MOST_ELEMENTS);
        useMuch(fresh);
        measure(fresh);
        Check.eq("objects behind many calls", seen.size(), objects);
        Check.eq("fields and elements behind many calls", elements, size);
        noneIsMade();
        Check.end();
    }

    private static void measure(Object root) throws IllegalAccessException {
        elements = 0;
        seen = new IdentityHashMap<>();
        List<Object> open = new ArrayList<>();
        open.add(root);
        while (!open.isEmpty()) {
            Object one = open.remove(open.size() - 1);
            if (one == null || seen.put(one, true) != null) {
                continue;
            }
            if (one.getClass().isArray()) {
                elements += Array.getLength(one);
                continue;
            }
            for (Field field : one.getClass().getDeclaredFields()) {
                if (!Modifier.isStatic(field.getModifiers())) {
                    elements++;
                    field.setAccessible(true);
                    open.add(field.getType().isPrimitive() ? null : field.get(one));
                }
            }
        }
    }

    private static void useMuch(EaveRoofs x) {
        Check.tell(x, Check.chequered(14, 10) + ";speed 1,2,3,4;mark 1,1;mark 9,9");
        List<Calls.Call> calls = Calls.ofHouses();
        for (int k = 0; k < 8; k++) {
            for (Calls.Call call : calls) {
                call.taken().applyAsLong(x);
                if (call.refused() != null) {
                    call.refused().applyAsLong(x);
                }
            }
        }
    }

    /** By the machine's own count of bytes; the first round makes the tests' own things. */
    private static void noneIsMade() {
        com.sun.management.ThreadMXBean machine = (com.sun.management.ThreadMXBean) ManagementFactory.getThreadMXBean();
        List<Calls.Call> calls = Calls.ofHouses();
        EaveRoofs x = Check.house(Calls.TEXT);
        for (int round = 0; round < 3; round++) {
            for (int i = 0; i < calls.size(); i++) {
                Calls.Call call = calls.get(i);
                long before = machine.getCurrentThreadAllocatedBytes();
                call.taken().applyAsLong(x);
                long made = machine.getCurrentThreadAllocatedBytes() - before;
                Check.yes(call.name() + " makes " + made + " bytes", round == 0 || made == 0);
            }
            long before = machine.getCurrentThreadAllocatedBytes();
            x.feed(0x686f7573, 0x65207878, 0x78782f78, 0x7878783b, 0x6d61726b);
            x.text(15);
            long made = machine.getCurrentThreadAllocatedBytes() - before;
            Check.yes("text makes " + made + " bytes", round == 0 || made == 0);
            Check.eq("the house", Check.tell(x, Calls.TEXT), 5);
        }
    }
}
