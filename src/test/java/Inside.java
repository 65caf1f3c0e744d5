import java.lang.reflect.Field;

/**
 * Sets what stands inside a room, for cases that the document names and no run of calls brings about
 * (a child that is spare, more than 2 B headings, more than 2 B + 1 drawers side by side at a fall).
 */
final class Inside {
    static final int LEVEL = 0;
    static final int SIZE = 1;
    static final int HIGH = 2;
    static final int THREAD = 3;
    private static final int FIRST_HEADING = 5;

    private Inside() {
    }

    static void set(DrawerRoom room, int drawer, int what, int value) {
        Object drawers = get(room, "drawers");
        cells(drawers)[drawer * number(drawers, "width") + what] = value;
    }

    static void setHeading(DrawerRoom room, int drawer, int k, int heading) {
        set(room, drawer, FIRST_HEADING + k, heading);
    }

    static void setChild(DrawerRoom room, int drawer, int k, int child) {
        set(room, drawer, number(get(room, "drawers"), "firstChild") + k, child);
    }

    static void setTop(DrawerRoom room, int drawer) {
        Object drawers = get(room, "drawers");
        cells(drawers)[number(drawers, "topCell")] = drawer;
    }

    static void setInUse(DrawerRoom room, int howMany) {
        Object drawers = get(room, "drawers");
        cells(drawers)[number(drawers, "inUseCell")] = howMany;
    }

    private static int[] cells(Object drawers) {
        return (int[]) get(get(drawers, "cells"), "now");
    }

    private static int number(Object object, String name) {
        return (Integer) get(object, name);
    }

    private static Object get(Object object, String name) {
        try {
            Field field = object.getClass().getDeclaredField(name);
            field.setAccessible(true);
            return field.get(object);
        } catch (ReflectiveOperationException e) {
            throw new IllegalStateException("the room has no " + name, e);
        }
    }
}
