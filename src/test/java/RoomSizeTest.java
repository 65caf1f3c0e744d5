import com.sun.management.ThreadMXBean;
import java.lang.management.ManagementFactory;
import java.lang.reflect.Array;
import java.lang.reflect.Field;
import java.lang.reflect.Modifier;
import java.util.IdentityHashMap;
import java.util.Map;

/** All calls of a run live in one room: a new object stays small, and no call makes anything. */
public final class RoomSizeTest {
    private static final int MOST_OBJECTS = 60;
    private static final int MOST_ELEMENTS = 12000;

    private static int wrong = 0;

    public static void main(String[] args) throws ReflectiveOperationException {
        for (int b = 2; b <= 5; b++) {
            DrawerRoom room = new DrawerRoom(b);
            size("new, B " + b, room);
            allCalls(room);
            size("used, B " + b, room);
        }
        ThreadMXBean bean = (ThreadMXBean) ManagementFactory.getThreadMXBean();
        long self = Thread.currentThread().getId();
        DrawerRoom[] rooms = new DrawerRoom[20];
        for (int i = 0; i < rooms.length; i++) rooms[i] = new DrawerRoom(5);
        bean.getThreadAllocatedBytes(self);
        long before = bean.getThreadAllocatedBytes(self);
        for (DrawerRoom room : rooms) allCalls(room);
        long made = bean.getThreadAllocatedBytes(self) - before;
        // The measuring itself may make a little; a single array a call would be far more.
        check(made < 20000, "the calls of 20 rooms made " + made + " bytes");
        System.out.println("RoomSizeTest: " + wrong + " wrong");
        if (wrong != 0) System.exit(1);
    }

    private static void check(boolean right, String what) {
        if (!right) {
            wrong++;
            System.out.println(what);
        }
    }

    private static void allCalls(DrawerRoom room) {
        room.rule(6, 0x622d2061, 0x2b3b2020, 0, 0, 0);
        for (int i = 0; i < 110; i++) {
            room.fault(i % 4, i % 3);
            room.begin(i % 4, i % 5 == 4 ? 2 : 1, i * 37 % 1000);
            room.step(i % 4, i % 7 == 0 ? 2 : 30);
            if (room.count(6) > 2) room.fall();
        }
        room.fall();
        room.night(2 * room.count(0));
        room.fault(0, 2);
        room.fault(1, 1);
        room.begin(0, 1, 5000);
        room.begin(1, 2, 5000);
        for (int n = 1; n <= 8; n++) room.found(n, n - 1);
        room.step(0, 30);
        room.step(1, 30);
        for (int heading = 0; heading < 100; heading++) {
            room.line(heading);
            room.order(heading, 0);
            room.rank(heading);
            room.nth(heading);
            room.there(heading, 9999, 50);
            room.ahead(heading, 5);
            room.job(heading, 2);
            room.drawer(heading, 3);
            room.at(heading, 0, true);
            room.clerk(heading % 4, 0);
            room.count(heading % 9);
        }
        room.shape();
    }

    private static void size(String what, DrawerRoom room) throws ReflectiveOperationException {
        Map<Object, Object> seen = new IdentityHashMap<>();
        int elements = measure(room, seen);
        check(seen.size() <= MOST_OBJECTS, what + ": objects " + seen.size());
        check(elements <= MOST_ELEMENTS, what + ": fields and elements " + elements);
    }

    private static int measure(Object object, Map<Object, Object> seen) throws ReflectiveOperationException {
        if (object == null || seen.put(object, object) != null) return 0;
        if (object.getClass().isArray()) return Array.getLength(object);
        int elements = 0;
        for (Field field : object.getClass().getDeclaredFields()) {
            if (Modifier.isStatic(field.getModifiers())) continue;
            elements++;
            field.setAccessible(true);
            if (!field.getType().isPrimitive()) elements += measure(field.get(object), seen);
        }
        return elements;
    }
}
