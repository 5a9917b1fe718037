import com.sun.management.ThreadMXBean;
import java.lang.management.ManagementFactory;
import java.lang.reflect.InvocationTargetException;
import java.lang.reflect.Method;
import java.util.ArrayList;
import java.util.List;
import java.util.Random;

/** No call ever throws, whatever it is given and however many there were; none takes much room. */
public final class WildTests {
    private static final int[] ODD = {Integer.MIN_VALUE, Integer.MIN_VALUE + 9, -1000, -10, -9, -8, -1, 99, 100, 126,
        899, 900, 1023, 1024, 65536, Integer.MAX_VALUE - 9, Integer.MAX_VALUE};
    private static int wrong = 0;

    private static List<Method> calls() {
        List<Method> calls = new ArrayList<>();
        for (Method m : PressedMen.class.getDeclaredMethods()) {
            if ((m.getModifiers() & 1) != 0) {
                calls.add(m);
            }
        }
        calls.sort((a, b) -> a.getName().compareTo(b.getName()));
        return calls;
    }

    private static Object drawn(Class<?> type, Random random) {
        if (type == boolean.class) {
            return random.nextBoolean();
        }
        int kind = random.nextInt(10);
        return kind == 0 ? ODD[random.nextInt(ODD.length)] : kind < 8 ? random.nextInt(8) : random.nextInt(127);
    }

    private static void wild(int seed, int length) throws IllegalAccessException {
        Random random = new Random(seed);
        PressedMen x = new PressedMen();
        List<Method> calls = calls();
        for (int i = 0; i < 30; i++) {
            x.man(10 + i, i % 4, i % 3, 50 + i, i % 6, i % 9, i % 4);
        }
        for (int i = 0; i < length; i++) {
            Method m = calls.get(random.nextInt(calls.size()));
            Object[] given = new Object[m.getParameterCount()];
            for (int k = 0; k < given.length; k++) {
                given[k] = drawn(m.getParameterTypes()[k], random);
            }
            try {
                m.invoke(x, given);
            } catch (InvocationTargetException e) {
                wrong++;
                System.out.println(m.getName() + java.util.Arrays.toString(given) + " threw " + e.getCause());
                return;
            }
        }
    }

    /** All that can be there is there, and 512 of the dearest calls are made. */
    private static int dearest() {
        PressedMen x = new PressedMen();
        x.streets(8);
        for (int a = 0; a < 8; a++) {
            for (int b = a + 1; b < 8; b++) {
                x.way(a, b, true);
            }
        }
        for (int i = 0; i < 40; i++) {
            x.man(20, 0, 0, 60, 0, 5, 4 + i % 4);
        }
        for (int i = 0; i < 60; i++) {
            x.paper(i % 40, 0, 0, 20, 20, 60, 60, 0, 899);
        }
        x.act(0);
        for (int i = 0; i < 60; i++) {
            x.sign(0, i == 0 ? '!' : i < 30 ? '&' : 'p');
        }
        int sum = 0;
        for (int i = 0; i < 60; i++) {
            sum += x.take(i % 40, 0) + x.pass(10) + x.letGo(i % 40);
        }
        for (int i = 0; i < 200; i++) {
            sum += x.laid(2, 3, i % 2, i % 3) + x.fleet(0) + x.met(2, 3) + x.where(i % 40, 0) + x.wronged();
        }
        return sum;
    }

    private static void room() {
        if (!(ManagementFactory.getThreadMXBean() instanceof ThreadMXBean)) {
            return;
        }
        ThreadMXBean bean = (ThreadMXBean) ManagementFactory.getThreadMXBean();
        long id = Thread.currentThread().getId();
        dearest();
        long before = bean.getThreadAllocatedBytes(id);
        dearest();
        long bytes = bean.getThreadAllocatedBytes(id) - before;
        System.out.println(bytes + " bytes for the dearest run");
        if (bytes > 200000) {
            wrong++;
            System.out.println("that is more than 200000");
        }
    }

    public static void main(String[] args) throws IllegalAccessException {
        for (int seed = 0; seed < 300; seed++) {
            wild(seed, 2000);
        }
        room();
        System.out.println("wild calls: " + wrong + " wrong");
        if (wrong != 0) {
            System.exit(1);
        }
    }
}
