import java.lang.reflect.Array;
import java.lang.reflect.Field;
import java.lang.reflect.Modifier;
import java.util.IdentityHashMap;
import java.util.Map;

/** Counts what one object is made of: all runs live in one room, and LanguageTest sees that no call makes more. */
public final class RoomTest extends Checks {
    private static final int MOST_OBJECTS = 100, MOST_ITEMS = 4000;

    private static int items = 0;

    public static void main(String[] args) throws IllegalAccessException {
        Map<Object, Boolean> seen = new IdentityHashMap<>();
        count(new SewsUpTheAfternoon(), seen);
        System.out.println(seen.size() + " objects and arrays of " + items + " fields and items");
        due("too many objects", Math.max(MOST_OBJECTS, seen.size()), MOST_OBJECTS);
        due("too many fields and items", Math.max(MOST_ITEMS, items), MOST_ITEMS);
        end();
    }

    private static void count(Object of, Map<Object, Boolean> seen) throws IllegalAccessException {
        if (of == null || seen.put(of, true) != null) {
            return;
        }
        if (of.getClass().isArray()) {
            items += Array.getLength(of);
            if (!of.getClass().getComponentType().isPrimitive()) {
                for (Object item : (Object[]) of) {
                    count(item, seen);
                }
            }
            return;
        }
        for (Field f : of.getClass().getDeclaredFields()) {
            if (!Modifier.isStatic(f.getModifiers())) {
                items++;
                if (!f.getType().isPrimitive()) {
                    f.setAccessible(true);
                    count(f.get(of), seen);
                }
            }
        }
    }
}
