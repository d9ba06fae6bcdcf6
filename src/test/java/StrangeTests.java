import java.lang.reflect.InvocationTargetException;
import java.lang.reflect.Method;
import java.util.HashSet;
import java.util.Random;
import java.util.Set;

/** Whatever is asked, and however often: a call throws what its face tells, and nothing else. */
public final class StrangeTests {
    private static final int[] STRANGE = {
        Integer.MIN_VALUE, Integer.MIN_VALUE + 1, -1000000, -10, -9, -2, -1, 0, 1, 2, 3, 4, 5, 6, 7, 8, 12, 16, 60,
        64, 128, 129, 511, 512, 513, 3072, 1000000, Integer.MAX_VALUE - 1, Integer.MAX_VALUE};

    public static void main(String[] args) throws Exception {
        int calls = 0;
        for (int run = 0; run < 60; run++) {
            calls += run(new Random(run), run % 3 == 0 ? 3000 : 512);
        }
        calls += manyNames();
        System.out.println("StrangeTests: " + calls + " calls, nothing strange");
    }

    private static int run(Random random, int calls) throws Exception {
        Heapkeep heap = new Heapkeep();
        Method[] methods = Heapkeep.class.getDeclaredMethods();
        java.util.Arrays.sort(methods, (a, b) -> a.getName().compareTo(b.getName()));
        int done = 0;
        while (done < calls) {
            Method method = methods[random.nextInt(methods.length)];
            boolean isRare = method.getName().equals("size") || method.getName().equals("digest");
            if (!java.lang.reflect.Modifier.isPublic(method.getModifiers()) || isRare && random.nextInt(20) > 0) {
                continue;
            }
            call(heap, method, random);
            done++;
        }
        if (calls <= 512 && !heap.isSound()) {
            throw new AssertionError("not sound after " + calls + " calls");
        }
        return done;
    }

    private static void call(Heapkeep heap, Method method, Random random) throws Exception {
        Object[] args = new Object[method.getParameterCount()];
        for (int i = 0; i < args.length; i++) {
            args[i] = method.getParameterTypes()[i] == boolean.class ? (Object) random.nextBoolean()
                    : random.nextInt(3) == 0 ? STRANGE[random.nextInt(STRANGE.length)] : random.nextInt(6);
        }
        Set<Class<?>> let = new HashSet<>(java.util.Arrays.asList(method.getExceptionTypes()));
        try {
            Object got = method.invoke(heap, args);
            if (got == null) {
                throw new AssertionError(method.getName() + " answered null");
            }
        } catch (InvocationTargetException e) {
            if (!let.contains(e.getCause().getClass())) {
                throw new AssertionError(method.getName() + java.util.Arrays.toString(args), e.getCause());
            }
        }
    }

    /** Beyond 512 names all is free, but for the exceptions of the face. */
    private static int manyNames() {
        Heapkeep heap = new Heapkeep();
        for (int i = 0; i < 700; i++) {
            try {
                int name = heap.make(0, i % 7, i % 2 == 0);
                if (name != i) {
                    throw new AssertionError("name " + name + ", due is " + i);
                }
            } catch (IllegalStateException e) {
                if (i < 512) {
                    throw e;
                }
            }
            heap.finish(-1);
        }
        heap.digest();
        heap.isSound();
        heap.size(64);
        if (heap.make(0, 0, false) != 0) {
            throw new AssertionError("names do not begin anew");
        }
        return 1400;
    }
}
