import java.lang.reflect.Array;
import java.lang.reflect.Field;
import java.lang.reflect.Modifier;
import java.util.IdentityHashMap;
import java.util.Map;

/** All calls of a run live in one room: a house that is full stays small, and its dear calls keep nothing. */
public final class RoomTest {
    private final Map<Object, Boolean> met = new IdentityHashMap<>();
    private int cells = 0;

    private void walk(Object o) throws IllegalAccessException {
        if (o == null || met.put(o, true) != null) {
            return;
        }
        if (o.getClass().isArray()) {
            cells += Array.getLength(o);
            for (int i = 0; i < Array.getLength(o) && !o.getClass().getComponentType().isPrimitive(); i++) {
                walk(Array.get(o, i));
            }
            return;
        }
        for (Field f : o.getClass().getDeclaredFields()) {
            if (!Modifier.isStatic(f.getModifiers())) {
                cells++;
                f.setAccessible(true);
                if (!f.getType().isPrimitive()) {
                    walk(f.get(o));
                }
            }
        }
    }

    private static NewsreelHouse full() {
        NewsreelHouse x = new NewsreelHouse();
        for (int i = 0; i < 40; i++) {
            x.way(i % 8, (i + 1) % 8, i, 10, 3, 2);
            x.shot(i % 8, 0, 20, i % 16, i, 1);
            x.story(i % 16, 0, 0, i);
            x.put(i % 8, i);
            x.rule(0);
            x.feed(i % 6, 0x2020202020202020L);
            x.right(i % 16, 31, 0, 9, 9);
            x.man(i % 4, i % 8, i);
            x.event(i % 8, i * 7, 5);
            x.hall(0, 0, 8, 9);
        }
        return x;
    }

    private static int[] sizeOf(Object o) throws IllegalAccessException {
        RoomTest room = new RoomTest();
        room.walk(o);
        return new int[] {room.met.size(), room.cells};
    }

    public static void main(String[] args) throws IllegalAccessException {
        NewsreelHouse x = full();
        int[] before = sizeOf(x);
        for (int i = 0; i < 20; i++) {
            x.reel(0, 0);
            x.cover();
            x.run();
            x.fault(0);
            x.arrival(1, 0, 0, true);
        }
        int[] after = sizeOf(x);
        int[] fresh = sizeOf(new NewsreelHouse());
        System.out.println("a new house: " + fresh[0] + " objects, " + fresh[1] + " cells; a full one: " + after[0] + ", " + after[1]);
        boolean good = fresh[0] < 100 && fresh[1] < 6000 && after[0] < 300 && after[1] < 9000;
        if (!good || before[0] != after[0] || before[1] != after[1]) {
            System.out.println("a house is too large, or grows by questions");
            System.exit(1);
        }
    }
}
