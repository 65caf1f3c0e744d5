import java.lang.reflect.Field;

/**
 * The 60 spare drawers of promise 5. 120 jobs hardly use that many drawers (a search for a run that
 * does came to 169 of the 197), so the count of those in use is set from outside here.
 */
public final class SpareDrawersTest {
    private static int wrong = 0;

    public static void main(String[] args) throws ReflectiveOperationException {
        for (int inUse : new int[] {1, 195, 196, 197, 255, 256}) {
            boolean enough = 256 - inUse >= 60;
            DrawerRoom room = new DrawerRoom(2);
            use(room, inUse);
            due("in use", room.count(4), inUse);
            due("file with " + inUse, room.begin(0, 1, 5), enough ? 0 : DrawerRoom.NONE);
            due("jobs", room.count(2), enough ? 1 : 0);
            due("seek with " + inUse, room.begin(1, 0, 5), enough ? 1 : 0);
            due("pull with " + inUse, room.begin(2, 2, 5), enough ? 2 : 1);
        }
        partWithNoneSpare();
        System.out.println("SpareDrawersTest: " + wrong + " wrong");
        if (wrong != 0) System.exit(1);
    }

    /** It can't come to this, but no call may fail then either. */
    private static void partWithNoneSpare() throws ReflectiveOperationException {
        DrawerRoom room = new DrawerRoom(2);
        for (int heading = 0; heading < 4; heading++) {
            room.begin(0, 1, heading);
            room.step(0, 30);
        }
        room.begin(0, 1, 7);
        room.begin(1, 1, 8);
        use(room, 256);
        due("steps", room.step(0, 30), 3);
        due("drawers", room.count(4), 256);
        due("steps", room.step(1, 30), 3);
        room.fall();
        due("night", room.night(2), 4);
    }

    private static void use(DrawerRoom room, int inUse) throws ReflectiveOperationException {
        Object drawers = get(room, "drawers");
        int[] now = (int[]) get(get(drawers, "cells"), "now");
        now[(Integer) get(drawers, "inUseCell")] = inUse;
    }

    private static Object get(Object object, String name) throws ReflectiveOperationException {
        Field field = object.getClass().getDeclaredField(name);
        field.setAccessible(true);
        return field.get(object);
    }

    private static void due(String what, int got, int want) {
        if (got != want) {
            wrong++;
            System.out.println(what + " answered " + got + ", due is " + want);
        }
    }
}
