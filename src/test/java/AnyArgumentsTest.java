import java.lang.reflect.Field;
import java.lang.reflect.InvocationTargetException;
import java.lang.reflect.Method;
import java.lang.reflect.Modifier;
import java.util.ArrayDeque;
import java.util.Arrays;
import java.util.Collections;
import java.util.Comparator;
import java.util.IdentityHashMap;
import java.util.NoSuchElementException;
import java.util.Random;
import java.util.Set;

/**
 * Every method with arguments of all sizes, on an object that is new, that has some of all and that is full:
 * sign alone may throw, and that one exception alone; and an object's rows are those that its constructor made.
 */
public final class AnyArgumentsTest {
    /** Making the full one takes some hundred; 512 are told. */
    private static final int CALLS = 400;
    private static final int OBJECTS = 150;
    private static final int MOST_ROWS_AND_OBJECTS = 60;
    private static final int MOST_ELEMENTS = 4000;
    private static final int[] SIZES = {Integer.MIN_VALUE, Integer.MIN_VALUE + 1, -1000001, -24, -23, -2, -1, 0, 1, 2, 3, 4, 5, 6, 7, 8,
        9, 12, 13, 19, 20, 23, 24, 29, 30, 31, 39, 40, 41, 98, 99, 100, 120, 121, 300, 301, 998, 999, 1000, 1001, 1000000, 1000001,
        1 << 30, Integer.MAX_VALUE - 1, Integer.MAX_VALUE, 0x2b2d6a69, 0x793a6b2b, 0x352c3720, 0x20ff0031};
    private static final Bench bench = new Bench();
    private static final Random random = new Random(13);

    public static void main(String[] args) throws IllegalAccessException {
        Method[] face = face();
        bench.sentence("no call throws by itself, for any arguments in any state");
        for (int i = 0; i < OBJECTS; i++) {
            callAll(face, made(i % 3));
        }
        bench.finish();
    }

    private static Method[] face() {
        Method[] all = PulseParts.class.getDeclaredMethods();
        Method[] face = Arrays.stream(all).filter(m -> Modifier.isPublic(m.getModifiers())).toArray(Method[]::new);
        Arrays.sort(face, Comparator.comparing(Method::getName));
        return face;
    }

    private static PulseParts made(int kind) {
        PulseParts x = new PulseParts();
        if (kind == 0) {
            return x;
        }
        boolean full = kind == 2;
        for (int i = 0; i < (full ? 8 : 2); i++) {
            Bench.and(x, Bench.CODE, i % 2 == 0 ? "+9i8-7" : i == 5 ? "+3-i" : "j");
            x.beam(1 + i, 9 + i, i);
        }
        for (int i = 0; i < (full ? 6 : 1); i++) {
            Bench.and(x, Bench.LAW, "y:!(k>1&[[a*9999]/b]<0)|n=k?k*k-a/b;y:9999*9999*k");
            Bench.and(x, Bench.RESTS, full ? "99,2,3,5,7,11,13,17" : "5,7");
        }
        x.draw(full ? 40 : 9, 1000, 7L);
        for (int i = 0; i < (full ? 40 : 3); i++) {
            x.change(0, i);
        }
        x.image();
        return x;
    }

    private static void callAll(Method[] face, PulseParts x) throws IllegalAccessException {
        Set<Object> rows = rowsOf(x);
        for (int i = 0; i < CALLS; i++) {
            call(face[random.nextInt(face.length)], x);
        }
        bench.due("the same rows and objects behind all calls", rows.equals(rowsOf(x)), true);
        bench.due("few rows and objects", rows.size() <= MOST_ROWS_AND_OBJECTS, true);
        bench.due("few elements", elementsOf(rows) <= MOST_ELEMENTS, true);
    }

    private static void call(Method m, PulseParts x) throws IllegalAccessException {
        Object[] arguments = new Object[m.getParameterCount()];
        for (int i = 0; i < arguments.length; i++) {
            Class<?> type = m.getParameterTypes()[i];
            int size = random.nextInt(3) == 0 ? random.nextInt(9) - 1 : SIZES[random.nextInt(SIZES.length)];
            arguments[i] = type == boolean.class ? (Object) (size > 3) : type == long.class ? (Object) (size * 0x100000001L) : (Object) size;
        }
        String call = m.getName() + Arrays.toString(arguments);
        try {
            m.invoke(x, arguments);
            bench.due(call + " throws", false, false);
        } catch (InvocationTargetException e) {
            boolean told = m.getName().equals("sign") && e.getCause().getClass() == NoSuchElementException.class;
            bench.due(call + " throws " + e.getCause() + ", as it may", told, true);
        }
    }

    /** The object, all that it holds, and what these hold. */
    private static Set<Object> rowsOf(PulseParts x) throws IllegalAccessException {
        Set<Object> rows = Collections.newSetFromMap(new IdentityHashMap<>());
        ArrayDeque<Object> open = new ArrayDeque<>();
        open.add(x);
        while (!open.isEmpty()) {
            Object one = open.poll();
            if (!rows.add(one) || one.getClass().isArray()) {
                continue;
            }
            for (Field f : one.getClass().getDeclaredFields()) {
                if (!Modifier.isStatic(f.getModifiers()) && !f.getType().isPrimitive()) {
                    f.setAccessible(true);
                    open.add(f.get(one));
                }
            }
        }
        return rows;
    }

    private static int elementsOf(Set<Object> rows) {
        int elements = 0;
        for (Object one : rows) {
            boolean isRow = one.getClass().isArray();
            elements += isRow ? java.lang.reflect.Array.getLength(one) : one.getClass().getDeclaredFields().length;
        }
        return elements;
    }
}
