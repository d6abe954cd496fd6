import java.lang.reflect.Array;
import java.lang.reflect.Field;
import java.lang.reflect.Method;
import java.lang.reflect.Modifier;
import java.util.ArrayDeque;
import java.util.Collections;
import java.util.IdentityHashMap;
import java.util.Set;

/** No call throws, for any arguments in any state; and what an object holds stays small. */
public final class RoomTest {
    private static final int[] EDGES = {Integer.MIN_VALUE, -1, 0, 1, 2, 5, 41, Integer.MAX_VALUE};

    public static void main(String[] args) throws Exception {
        for (Method method : DrillField.class.getDeclaredMethods()) {
            if (Modifier.isPublic(method.getModifiers())) {
                edges(method, new DrillField());
                edges(method, full());
            }
        }
        room();
        Due.end("RoomTest");
    }

    /** One with all that can be: MARCHERS, PROPS, GROUPS, PERSONS, a RUN, a PATH, MARKS. */
    private static DrillField full() {
        DrillField x = new DrillField();
        for (int i = 0; i < 20; i++) x.marcher(20 + i, 15 + i % 7, i % 8);
        for (int i = 0; i < 30; i++) x.prop(2 * i, 30);
        for (int i = 1; i <= 8; i++) x.group(i, (1 << 20) - i);
        for (int i = 0; i < 16; i++) x.person((1 << 20) - 1 - (1 << i));
        for (int i = 0; i < 60; i++) x.away(i % 16, i, i + 5, i);
        for (int t = 0; t < 4; t++) x.tray(t, t, 40);
        for (int i = 0; i < 12; i++) x.write(0, i, i);
        Due.tell(x, "a: go 1 again 2 { turn 3 wheel left 4 } shift 1 -1 3; b: follow 150;");
        Due.tell(x, "a: go 1 again 2 { turn 3 mark 4 } shift 1 -1 3; b: follow 99;");
        x.run();
        x.goes(0, 6, 9);
        x.path(0, 3, 3, -1);
        for (int i = 0; i < 162; i++) x.mark(i % 6, i / 6 % 9, i / 54, i % 101);
        Due.feed(x, "a: go 1;");
        return x;
    }

    private static void edges(Method method, DrillField x) {
        Class<?>[] types = method.getParameterTypes();
        int all = 1;
        for (int i = 0; i < types.length; i++) all *= EDGES.length;
        for (int k = 0; k < all; k += types.length > 4 ? 3 : 1) {
            Object[] args = new Object[types.length];
            for (int i = 0, rest = k; i < types.length; i++, rest /= EDGES.length) {
                int value = EDGES[rest % EDGES.length];
                args[i] = types[i] == long.class ? (Object) Long.valueOf(value) : (Object) Integer.valueOf(value);
            }
            try {
                method.invoke(x, args);
            } catch (ReflectiveOperationException thrown) {
                Due.yes(method + " threw " + thrown.getCause(), false);
                return;
            }
        }
        Due.yes(method + " does not throw", true);
    }

    /** All objects and arrays that hang on one, and all their fields and elements. */
    private static long[] size(Object root) throws Exception {
        Set<Object> seen = Collections.newSetFromMap(new IdentityHashMap<>());
        ArrayDeque<Object> queue = new ArrayDeque<>();
        seen.add(root);
        queue.add(root);
        long parts = 0;
        while (!queue.isEmpty()) {
            Object object = queue.remove();
            if (object.getClass().isArray()) {
                parts += Array.getLength(object);
                for (int i = 0; object instanceof Object[] && i < Array.getLength(object); i++) {
                    Object inner = Array.get(object, i);
                    if (inner != null && seen.add(inner)) queue.add(inner);
                }
                continue;
            }
            for (Field field : object.getClass().getDeclaredFields()) {
                if (Modifier.isStatic(field.getModifiers())) continue;
                parts++;
                field.setAccessible(true);
                Object inner = field.getType().isPrimitive() ? null : field.get(object);
                if (inner != null && seen.add(inner)) queue.add(inner);
            }
        }
        return new long[] {seen.size(), parts};
    }

    /** 512 calls, were each of them a constructor, fit the room of 600,000 and 7,300,000. */
    private static void room() throws Exception {
        long[] fresh = size(new DrillField());
        Due.yes("a new object: " + fresh[0] + " objects", fresh[0] * 512 <= 600_000);
        Due.yes("a new object: " + fresh[1] + " parts", fresh[1] * 512 <= 7_300_000);
        DrillField x = full();
        long[] before = size(x);
        for (Method method : DrillField.class.getDeclaredMethods()) {
            if (Modifier.isPublic(method.getModifiers())) edges(method, x);
        }
        long[] behind = size(x);
        Due.is("objects stay as many", behind[0], before[0]);
        Due.is("parts stay as many", behind[1], before[1]);
        Due.yes("a full object: " + behind[1] + " parts", behind[1] <= 100_000);
        System.out.println("a new object: " + fresh[0] + " objects, " + fresh[1] + " parts; a full one: " + behind[1]);
    }
}
