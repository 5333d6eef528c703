import java.lang.management.ManagementFactory;
import java.lang.reflect.InvocationTargetException;
import java.lang.reflect.Method;
import java.lang.reflect.Modifier;
import java.util.ArrayList;
import java.util.Arrays;
import java.util.Comparator;
import java.util.List;
import java.util.Random;

/** No call throws, whatever its numbers; and no call makes objects, so that all calls of a run have room. */
public final class AnyCallsTest {
    private static final int[] EDGES = {
        Integer.MIN_VALUE, Integer.MIN_VALUE + 1, -1000000005, -100000, -99999, -32769, -2, -1, 0, 1, 2, 3, 4, 5, 9, 10, 11,
        23, 24, 25, 30, 31, 40, 41, 60, 61, 84, 85, 96, 97, 99, 100, 101, 9999, 32768, 99999, 100000, Integer.MAX_VALUE};

    public static void main(String[] args) throws Exception {
        Random lot = new Random(7);
        List<Method> calls = new ArrayList<>();
        for (Method m : ThirstLead.class.getDeclaredMethods()) {
            if (Modifier.isPublic(m.getModifiers())) {
                calls.add(m);
            }
        }
        calls.sort(Comparator.comparing(Method::getName));
        for (int run = 0; run < 400; run++) {
            anyCalls(calls, lot, run);
        }
        everyEdge(calls);
        roomOfCalls();
        Due.end("AnyCallsTest");
    }

    private static ThirstLead started(int run) {
        ThirstLead x = new ThirstLead();
        if (run % 2 == 0) {
            x.deal(10);
            x.sheet(0, 0, 24);
            x.sheet(1, 1, 24);
            x.mark(1, 0, -1000000005);
            x.lay(0, 1, 0);
            x.lay(1, 2, 1);
            x.lay(2, 3, Integer.MIN_VALUE);
            Due.textOf(x, "thirst (0-9999*9999*22)/(h-s-1)*t");
            x.keep();
        }
        return x;
    }

    private static void anyCalls(List<Method> calls, Random lot, int run) {
        ThirstLead x = started(run);
        for (int i = 0; i < 490; i++) {
            Method m = calls.get(lot.nextInt(calls.size()));
            Object[] numbers = new Object[m.getParameterCount()];
            for (int k = 0; k < numbers.length; k++) {
                numbers[k] = lot.nextInt(3) == 0 ? EDGES[lot.nextInt(EDGES.length)] : lot.nextInt(12) - 1;
            }
            invoke(x, m, numbers);
        }
    }

    private static void everyEdge(List<Method> calls) {
        for (Method m : calls) {
            for (int edge : EDGES) {
                for (int place = 0; place < Math.max(1, m.getParameterCount()); place++) {
                    for (int others = 0; others < 2; others++) {
                        Object[] numbers = new Object[m.getParameterCount()];
                        Arrays.fill(numbers, others);
                        if (numbers.length > 0) {
                            numbers[place] = edge;
                        }
                        invoke(started(0), m, numbers);
                        invoke(started(1), m, numbers);
                    }
                }
            }
        }
    }

    private static void invoke(ThirstLead x, Method m, Object[] numbers) {
        try {
            m.invoke(x, numbers);
        } catch (InvocationTargetException e) {
            Due.holds(m.getName() + Arrays.toString(numbers) + " threw " + e.getCause(), false);
        } catch (IllegalAccessException e) {
            Due.holds(m.getName() + " can be called", false);
        }
    }

    private static void roomOfCalls() {
        com.sun.management.ThreadMXBean bean = (com.sun.management.ThreadMXBean) ManagementFactory.getThreadMXBean();
        long id = Thread.currentThread().getId();
        bean.getThreadAllocatedBytes(id);
        long start = bean.getThreadAllocatedBytes(id);
        ThirstLead x = new ThirstLead();
        long made = bean.getThreadAllocatedBytes(id);
        allCalls(x);
        long used = bean.getThreadAllocatedBytes(id);
        Due.holds("a new object takes " + (made - start) + " bytes", made - start < 100_000);
        Due.holds("calls take " + (used - made) + " bytes", used - made < 10_000);
    }

    private static void allCalls(ThirstLead x) {
        x.deal(10);
        x.sheet(0, 0, 24);
        for (int i = 0; i < 12; i++) {
            x.feed(0x74686972, 0x73742068, 0x2b312020);
            x.text();
            x.lay(0, 1, 0);
            x.lay(1, 2, 0);
            x.ask(0, 0);
            x.item(1, 0);
            x.copy(0, 0, 0, 1, 5);
            x.mark(0, 1, i);
            x.pour(0);
            x.reads(0);
            x.hours(1);
            x.behind(100, 1);
            x.lasts();
            x.salted(60, 0);
            x.tells(0, 40, 0);
            x.custom(60);
            x.enough(40);
            x.shown(100);
            x.thirsted(0, 0, 0);
            x.fee();
            x.fine(0);
            x.keep();
            x.tell(1);
            x.check(30);
            x.back();
        }
    }
}
