import java.lang.management.ManagementFactory;
import java.lang.reflect.InvocationTargetException;
import java.lang.reflect.Method;
import java.lang.reflect.Modifier;
import java.util.Arrays;
import java.util.Comparator;
import java.util.Random;

/** Calls with any arguments at all in any state: none throws, and 512 of them make little that is new. */
public final class AnyCallTest {
    private static final int[] ODD = {0, -1, 1, 6, 7, 12, 16, 17, 24, 25, 96, 97, 99, 100, 505, 1010, 1011, 32768, 99999, 100000,
        Due.BAD, Due.NO, Due.FULL, Due.NONE, Integer.MIN_VALUE, Integer.MAX_VALUE, Integer.MIN_VALUE + 1, 1 << 30};
    private static final int RUNS = 400, CALLS = 512;

    public static void main(String[] args) throws Exception {
        Method[] face = Arrays.stream(BentBranches.class.getDeclaredMethods())
            .filter(m -> Modifier.isPublic(m.getModifiers()))
            .sorted(Comparator.comparing(Method::getName))
            .toArray(Method[]::new);
        for (int n = 0; n < RUNS; n++) {
            anyCalls(face, new Random(n));
        }
        dearestCalls();
        Due.end();
    }

    private static void anyCalls(Method[] face, Random lot) throws Exception {
        BentBranches x = new BentBranches();
        x.deal(1 + lot.nextInt(6));
        for (int n = 0; n < CALLS; n++) {
            Method call = face[lot.nextInt(face.length)];
            Object[] given = new Object[call.getParameterCount()];
            for (int k = 0; k < given.length; k++) {
                given[k] = lot.nextInt(3) > 0 ? lot.nextInt(6) : lot.nextInt(3) > 0 ? ODD[lot.nextInt(ODD.length)] : lot.nextInt();
            }
            Due.is(call.getName() + Arrays.toString(given) + " throws", throwsAt(call, x, given) ? 1 : 0, 0);
        }
    }

    private static boolean throwsAt(Method call, BentBranches x, Object[] given) throws Exception {
        try {
            call.invoke(x, given);
            return false;
        } catch (InvocationTargetException thrown) {
            System.out.println(thrown.getCause());
            return true;
        }
    }

    /** What the calls that work longest make on the heap, in bytes. */
    private static void dearestCalls() {
        com.sun.management.ThreadMXBean heap = (com.sun.management.ThreadMXBean) ManagementFactory.getThreadMXBean();
        BentBranches x = new BentBranches();
        x.curve(0);
        Due.curve(x, 0, 2, 1, 40, -1);
        Due.text(x, "slope t<9|m");
        Due.text(x, "mark x*x+y*y-m");
        x.keep();
        asked(x);
        long before = heap.getThreadAllocatedBytes(Thread.currentThread().getId());
        for (int n = 0; n < 40; n++) {
            asked(x);
        }
        long made = heap.getThreadAllocatedBytes(Thread.currentThread().getId()) - before;
        // The measuring itself may make a little; a call that made rows would make far more.
        Due.is("calls that make rows (" + made + " bytes)", made < 4096 ? 0 : 1, 0);
    }

    private static void asked(BentBranches x) {
        x.genus(1);
        x.all(0, 2);
        x.both(0, 1);
        x.on(0, 120);
        x.tree(1, 505, 3, 1);
        x.slopes(1, 505);
        x.often(1, 505, 0);
        x.blown(1, 505, 0, 0);
        x.line(1, 505, 0);
        x.tell(0);
        x.check(0, 30);
        x.keep();
        x.back();
        x.lay(0, 1, 0);
        x.ask(0, 0);
        x.sheet(0, 0, 24);
        x.lay(1, 2, 0);
        x.copy(0, 0, 0, 1, 23);
    }
}
