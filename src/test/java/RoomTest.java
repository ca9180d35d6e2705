import java.lang.management.ManagementFactory;
import java.lang.reflect.InvocationTargetException;
import java.lang.reflect.Method;

/** No call throws for any numbers, and no call makes objects: the room of a run is what its objects take when new. */
final class RoomTest {
    private static final int[] NUMBERS = {
        Integer.MIN_VALUE, Integer.MIN_VALUE + 1, -129, -17, -2, -1, 0, 1, 2, 3, 4, 5, 6, 7, 8, 9, 10, 15, 16, 19, 20,
        59, 60, 61, 63, 64, 65, 99, 119, 120, 121, 127, 128, Integer.MAX_VALUE - 1, Integer.MAX_VALUE
    };
    private static final int CALLS = 500, BYTES_OF_NEW = 60_000, BYTES_OF_CALLS = 20_000;

    public static void main(String[] args) throws ReflectiveOperationException {
        Due due = new Due("RoomTest");
        RunColumns[] states = {new RunColumns(), full(120), full(63), full(64), full(65), full(1)};
        for (Method call : RunColumns.class.getDeclaredMethods()) {
            if (java.lang.reflect.Modifier.isPublic(call.getModifiers())) {
                for (int i = 0; i < states.length; i++) {
                    due.due(call.getName() + " throws nothing in state " + i, neverThrows(states[i], call));
                }
            }
        }
        room(due);
        due.end();
    }

    private static boolean neverThrows(RunColumns x, Method call) throws ReflectiveOperationException {
        Class<?>[] types = call.getParameterTypes();
        int drawn = 7;
        for (int round = 0; round < 3000; round++) {
            Object[] with = new Object[types.length];
            for (int i = 0; i < types.length; i++) {
                drawn = drawn * 1103515245 + 12345;
                int number = NUMBERS[(drawn >>> 16) % NUMBERS.length];
                with[i] = types[i] == int.class ? (Object) number : types[i] == long.class ? (Object) (long) number : (Object) (number > 0);
            }
            try {
                call.invoke(x, with);
            } catch (InvocationTargetException e) {
                System.out.println(call.getName() + " " + java.util.Arrays.toString(with) + ": " + e.getCause());
                return false;
            }
        }
        return true;
    }

    private static RunColumns full(int rows) {
        RunColumns x = new RunColumns();
        for (int i = 0; i < rows; i++) {
            x.add(i % 16, i / 16, i % 3, 15 - i % 16);
            if (i % 20 == 0) {
                x.mark();
            }
        }
        String[] texts = {
            "all", "not all", "a is 1", "b below 3", "c in 1..2",
            "a is 1 or b is 2 and c is 3 or (d below 4 or (a is 5 and (b is 6 or (c is 7 and (d is 8 or all)))))",
            "not not not not not not all", "((((((d in 15..0))))))"
        };
        for (String text : texts) {
            Due.query(x, text);
        }
        for (int i = 0; i < 10; i++) {
            x.see(0, i < 3);
            x.plan(1, 0);
            x.book(i % 8, i);
            x.tape(i % 6, i % 5, 60 - i);
        }
        x.image();
        return x;
    }

    private static void room(Due due) {
        com.sun.management.ThreadMXBean bean = (com.sun.management.ThreadMXBean) ManagementFactory.getThreadMXBean();
        long thread = Thread.currentThread().getId();
        bean.getThreadAllocatedBytes(thread);
        long before = bean.getThreadAllocatedBytes(thread);
        RunColumns x = new RunColumns();
        long made = bean.getThreadAllocatedBytes(thread) - before;
        due.due("a new object takes " + made + " bytes", made <= BYTES_OF_NEW);
        before = bean.getThreadAllocatedBytes(thread);
        calls(x);
        long used = bean.getThreadAllocatedBytes(thread) - before;
        due.due("the calls of a run take " + used + " bytes", used <= BYTES_OF_CALLS);
    }

    private static void calls(RunColumns x) {
        for (int i = 0; i < CALLS / 20; i++) {
            x.add(i % 16, 1, 2, 3);
            x.feed(i % 4 == 0 ? 'a' : 'l');
            x.feed('l');
            x.feed('l');
            x.query();
            x.mark();
            x.see(0, true);
            x.bounds(0, 1);
            x.of(0, 2);
            x.edge(0, 1, 2);
            x.two(0, 0, 3);
            x.plan(1, 0);
            x.ends(0, 1);
            x.book(0, i);
            x.looked();
            x.tape(i % 6, i % 5, 60);
            x.judge(0, 4, 0);
            x.image();
            x.undo();
            x.mean(0, 0, 0);
        }
    }
}
