import com.sun.management.ThreadMXBean;
import java.lang.management.ManagementFactory;
import java.lang.reflect.Constructor;
import java.lang.reflect.Field;
import java.lang.reflect.Method;
import java.lang.reflect.Modifier;
import java.util.ArrayDeque;
import java.util.Arrays;
import java.util.Deque;
import java.util.IdentityHashMap;
import java.util.Map;
import java.util.Set;
import java.util.TreeSet;

/** The public face, the constants, and how much room an object takes. */
public final class FaceTest {
    private static final Set<String> FACE = new TreeSet<>(Arrays.asList(
            "set(int,int)", "write()", "append(int,int)", "delete(int)", "pack()",
            "row(int,int)", "letter(int,int)", "piece(int,int,int)", "page(int,int)", "slot(int,int,int)",
            "count(int)", "key(int)", "ifPacked(int,int)", "bestHead()", "most(int)",
            "put(long)", "wipe()", "fault()", "undo()", "save(int)", "restore(int)"));
    private static final Check check = new Check();

    public static void main(String[] args) throws Exception {
        methods();
        constants();
        room();
        roomOfAllCalls();
        check.finish();
    }

    private static void methods() {
        Set<String> found = new TreeSet<>();
        Set<String> names = new TreeSet<>();
        for (Method method : OverflowRows.class.getDeclaredMethods()) {
            if (!Modifier.isPrivate(method.getModifiers())) {
                found.add(signature(method));
                names.add(method.getName());
                check.due(method + " returns int", method.getReturnType() == int.class ? 1 : 0, 1);
            }
        }
        check.due("the face is " + found, found.equals(FACE) ? 1 : 0, 1);
        for (Class<?> inside : OverflowRows.class.getDeclaredClasses()) {
            check.due(inside + " is static", Modifier.isStatic(inside.getModifiers()) ? 1 : 0, 1);
            for (Method method : inside.getDeclaredMethods()) {
                check.due(method + " has a public one's name", names.contains(method.getName()) ? 1 : 0, 0);
            }
        }
        for (Method method : OverflowRows.class.getDeclaredMethods()) {
            if (Modifier.isPrivate(method.getModifiers())) {
                check.due(method + " has a public one's name", names.contains(method.getName()) ? 1 : 0, 0);
            }
        }
        Constructor<?>[] constructors = OverflowRows.class.getDeclaredConstructors();
        check.due("constructors", constructors.length, 1);
        check.due("its parameters", constructors[0].getParameterCount(), 0);
        check.due("final", Modifier.isFinal(OverflowRows.class.getModifiers()) ? 1 : 0, 1);
    }

    private static String signature(Method method) {
        StringBuilder text = new StringBuilder(method.getName()).append('(');
        for (Class<?> type : method.getParameterTypes()) {
            text.append(text.charAt(text.length() - 1) == '(' ? "" : ",").append(type.getName());
        }
        return text.append(')').toString();
    }

    private static void constants() throws Exception {
        int found = 0;
        for (Field field : OverflowRows.class.getDeclaredFields()) {
            if (!Modifier.isPrivate(field.getModifiers())) {
                found++;
                check.due(field + " is a constant",
                        field.getModifiers(), Modifier.PUBLIC | Modifier.STATIC | Modifier.FINAL);
            }
        }
        check.due("constants", found, 8);
        check.due("NO_SUCH", constant("NO_SUCH"), -1);
        check.due("BAD_VALUE", constant("BAD_VALUE"), -2);
        check.due("BAD_TEXT", constant("BAD_TEXT"), -3);
        check.due("TOO_MANY", constant("TOO_MANY"), -4);
        check.due("NOT_POSSIBLE", constant("NOT_POSSIBLE"), -5);
        check.due("NONE", constant("NONE"), -6);
        check.due("HEAD", constant("HEAD"), 0);
        check.due("PIECE", constant("PIECE"), 1);
    }

    private static int constant(String name) throws Exception {
        return OverflowRows.class.getField(name).getInt(null);
    }

    /** All calls of a run live in one room, so it does not help them that what they made is dropped again. */
    private static void roomOfAllCalls() {
        ThreadMXBean threads = (ThreadMXBean) ManagementFactory.getThreadMXBean();
        OverflowRows x = new OverflowRows();
        everyCall(x, 0);
        long before = threads.getCurrentThreadAllocatedBytes();
        for (int round = 0; round < 64; round++) {
            everyCall(x, round);
        }
        long bytes = threads.getCurrentThreadAllocatedBytes() - before;
        check.due("some 1,400 calls make " + bytes + " bytes", bytes < 250_000 ? 1 : 0, 1);
    }

    private static void everyCall(OverflowRows x, int round) {
        x.set(0, round % 17);
        x.put(0x353D6162636465L);
        x.put(0x3B373D6162636465L);
        x.fault();
        x.write();
        x.put('a');
        x.wipe();
        x.append(5, 1);
        x.most(round);
        x.bestHead();
        x.ifPacked(round % 17, round % 3);
        x.pack();
        x.save(round % 2);
        x.delete(5);
        x.restore(round % 2);
        x.undo();
        x.row(7, round % 10);
        x.letter(7, 1);
        x.piece(7, 0, 1);
        x.page(0, round % 6);
        x.slot(0, 0, 1);
        x.count(round % 12);
        x.key(0);
    }

    /** All that is ever made is kept, so what a much used object holds is what its run made. */
    private static void room() throws Exception {
        OverflowRows x = new OverflowRows();
        long[] young = held(x);
        check.due("a new object holds " + young[0] + " objects", young[0] < 1000 ? 1 : 0, 1);
        check.due("a new object holds " + young[1] + " elements", young[1] < 14000 ? 1 : 0, 1);
        for (int call = 0; call < 512; call++) {
            x.save(call % 2);
            x.restore(call % 2);
            Check.write(x, Check.row(call % 100, 40));
            x.most(call % 100);
            x.bestHead();
            x.pack();
        }
        long[] old = held(x);
        check.due("a used object holds " + old[0] + " objects", old[0] < 2000 ? 1 : 0, 1);
        check.due("a used object holds " + old[1] + " elements", old[1] < 50000 ? 1 : 0, 1);
    }

    /** How many objects and arrays hang on one, and how many fields and elements they have. */
    private static long[] held(Object root) throws Exception {
        Map<Object, Object> seen = new IdentityHashMap<>();
        Deque<Object> open = new ArrayDeque<>();
        open.add(root);
        seen.put(root, root);
        long elements = 0;
        while (!open.isEmpty()) {
            Object object = open.remove();
            for (Object part : parts(object)) {
                elements++;
                boolean ours = part != null && (part.getClass().isArray()
                        || part.getClass().getName().startsWith("OverflowRows"));
                if (ours && seen.put(part, part) == null) {
                    open.add(part);
                }
            }
        }
        return new long[] {seen.size(), elements};
    }

    private static Object[] parts(Object object) throws Exception {
        if (object.getClass().isArray()) {
            Object[] parts = new Object[java.lang.reflect.Array.getLength(object)];
            for (int i = 0; i < parts.length; i++) {
                parts[i] = java.lang.reflect.Array.get(object, i);
            }
            return parts;
        }
        return Arrays.stream(object.getClass().getDeclaredFields())
                .filter(field -> !Modifier.isStatic(field.getModifiers()))
                .map(field -> valueOf(field, object))
                .toArray();
    }

    private static Object valueOf(Field field, Object object) {
        try {
            field.setAccessible(true);
            return field.get(object);
        } catch (IllegalAccessException e) {
            throw new IllegalStateException(e);
        }
    }
}
