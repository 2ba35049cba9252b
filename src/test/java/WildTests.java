import java.lang.reflect.InvocationTargetException;
import java.lang.reflect.Method;
import java.lang.reflect.Modifier;
import java.util.Arrays;
import java.util.Comparator;
import java.util.List;
import java.util.Random;

/** Any numbers to any calls: none throws, none that is refused changes what digest() tells, and none makes much. */
public final class WildTests {
    private static final Checks CHECKS = new Checks();
    private static final int[] EDGES = {Integer.MIN_VALUE, Integer.MIN_VALUE + 1, -1000, -9, -2, -1, 0, 1, 2, 3, 4, 5, 6, 7, 8, 9,
        12, 13, 14, 16, 20, 21, 31, 32, 33, 39, 40, 41, 59, 60, 61, 63, 64, 99, 100, 104, 115, 118, 255, 256,
        1 << 30, Integer.MAX_VALUE - 1, Integer.MAX_VALUE};
    private static final List<String> REFUSING = List.of("finding", "findings", "asked", "upper", "lower", "digest", "fault", "mark", "takes", "put");

    public static void main(String[] args) throws IllegalAccessException {
        Method[] calls = Arrays.stream(WokenYears.class.getDeclaredMethods())
            .filter(m -> Modifier.isPublic(m.getModifiers())).toArray(Method[]::new);
        // the machine tells methods in no order of its own
        Arrays.sort(calls, Comparator.comparing(Method::getName));
        CHECKS.due("public calls", calls.length, 45 - 1);
        for (int run = 0; run < 4000; run++) {
            wildRun(calls, new Random(run), run % 2 == 0);
        }
        CHECKS.due("what 512 dear calls make", Math.max(0, madeByDearCalls() - 200_000), 0);
        CHECKS.end("WildTests");
    }

    private static void wildRun(Method[] calls, Random random, boolean withTown) throws IllegalAccessException {
        WokenYears x = new WokenYears();
        if (withTown) {
            build(x, "s115h4209v4530r9905d4899i4130m4425".substring(0, 4 + 5 * (1 + random.nextInt(6))));
        }
        // with two digests each they stay below the 512 calls of an object
        for (int k = 0; k < 150; k++) {
            Method call = calls[random.nextInt(calls.length)];
            Object[] numbers = new Object[call.getParameterCount()];
            boolean near = random.nextInt(3) > 0;
            for (int i = 0; i < numbers.length; i++) {
                numbers[i] = near ? random.nextInt(9) - 1 : random.nextInt(9) == 0 ? random.nextInt() : EDGES[random.nextInt(EDGES.length)];
            }
            long before = x.digest();
            try {
                long answer = ((Number) call.invoke(x, numbers)).longValue();
                boolean refused = answer >= -6 && answer < 0 && !REFUSING.contains(call.getName());
                CHECKS.that(call.getName() + Arrays.toString(numbers) + " changes nothing", !refused || x.digest() == before);
            } catch (InvocationTargetException e) {
                CHECKS.that(call.getName() + Arrays.toString(numbers) + " does not throw " + e.getCause(), false);
            }
        }
    }

    private static void build(WokenYears x, String signs) {
        x.text(0, signs.length());
        for (int i = 0; i < signs.length(); i++) {
            x.put(0, i, signs.charAt(i));
        }
        x.town(0);
    }

    // in bytes; twice, as the machine makes some of its own when code is first used
    private static long madeByDearCalls() {
        com.sun.management.ThreadMXBean threads =
            (com.sun.management.ThreadMXBean) java.lang.management.ManagementFactory.getThreadMXBean();
        long made = 0;
        for (int time = 0; time < 2; time++) {
            WokenYears x = new WokenYears();
            build(x, "s015h4299v4599r9999h4899i4199m4499");
            long before = threads.getThreadAllocatedBytes(Thread.currentThread().getId());
            for (int k = 0; k < 39; k++) {
                x.intime(63, 0);
                x.many();
                x.dates(1);
                x.row(2, 0);
                x.test(2);
                x.sure(9);
                x.lots(20, k + 1);
                x.keep(k % 3);
                x.undo(k % 20);
                x.on(k % 3);
                x.fault(0);
                x.undo(0);
            }
            made = threads.getThreadAllocatedBytes(Thread.currentThread().getId()) - before;
        }
        return made;
    }
}
