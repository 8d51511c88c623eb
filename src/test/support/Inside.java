import java.lang.reflect.Field;

/** Reaches into a desk, for states to which no 512 calls lead. */
final class Inside {
    private Inside() {
    }

    static int[] books(FrankDesk x) {
        return (int[]) get(get(x, "books"), "words");
    }

    /** All words of the memory, sector behind sector. */
    static int[] memory(FrankDesk x) {
        return (int[]) get(get(x, "memory"), "words");
    }

    static int[] erases(FrankDesk x) {
        return (int[]) get(get(x, "memory"), "erases");
    }

    static void add(FrankDesk x, String name, long more) {
        try {
            Field field = open(x, name);
            field.setLong(x, field.getLong(x) + more);
        } catch (IllegalAccessException e) {
            throw new IllegalStateException(e);
        }
    }

    private static Object get(Object x, String name) {
        try {
            return open(x, name).get(x);
        } catch (IllegalAccessException e) {
            throw new IllegalStateException(e);
        }
    }

    private static Field open(Object x, String name) {
        try {
            Field field = x.getClass().getDeclaredField(name);
            field.setAccessible(true);
            return field;
        } catch (NoSuchFieldException e) {
            throw new IllegalStateException(e);
        }
    }
}
