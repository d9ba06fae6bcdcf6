import java.lang.reflect.InvocationTargetException;
import java.lang.reflect.Method;
import java.util.ArrayList;
import java.util.Arrays;
import java.util.List;
import java.util.Random;
import java.util.TreeMap;

/** Long mixed runs (always the same ones): each answer of Heapkeep is that of Model. */
public final class ModelTests {
    private static final int CALLS = 512;
    private static final String[] TEXTS =
        {"shape", "row", "free", "waiting", "remembered", "grey", "unseen"};

    /** How often each call comes: the name, then its weight (each run has factors of its own). */
    private static final Object[][] MIX = {
        {"make", 30}, {"refer", 8}, {"local", 14}, {"global", 3}, {"store", 26}, {"load", 8},
        {"get", 5}, {"enter", 2}, {"leave", 2}, {"keeper", 1}, {"collect", 2}, {"small", 3},
        {"begin", 1}, {"step", 9}, {"hide", 4}, {"barrier", 1}, {"finish", 3}, {"poll", 2}, {"keep", 1},
        {"back", 1}, {"size", 1}, {"path", 3}, {"would", 3}, {"cost", 2}, {"fits", 2},
        {"ofObject", 2}, {"field", 1}, {"localOf", 1}, {"house", 1}, {"counted", 1},
        {"knock", 1}, {"same", 1}, {"isSound", 1}, {"digest", 1},
    };

    private final Random random;
    private final Heapkeep real = new Heapkeep();
    private final Model model = new Model();
    private final List<String> calls = new ArrayList<>();
    private int wishes;
    private int nones;
    private final int[] weights = new int[MIX.length];
    private static final TreeMap<String, Integer> SEEN = new TreeMap<>();

    private ModelTests(long seed) {
        random = new Random(seed);
    }

    public static void main(String[] args) throws Exception {
        int runs = args.length > 0 ? Integer.parseInt(args[0]) : 400;
        int first = args.length > 1 ? Integer.parseInt(args[1]) : 0;
        for (int run = first; run < first + runs; run++) {
            ModelTests test = new ModelTests(run);
            if (!test.run(run)) {
                System.out.println("run " + run + ": " + test.calls.get(test.calls.size() - 1));
                for (String call : test.calls) {
                    System.out.println("    " + call);
                }
                System.exit(1);
            }
        }
        System.out.println("ModelTests: " + runs + " runs as the model has it");
        if (args.length > 1) {
            System.out.println(SEEN);
        }
    }

    private boolean run(int run) throws Exception {
        int[] sizes = {16, 17, 19, 24, 30, 40, 64, 64, 97, 128};
        if (run % 11 != 0 && !same("size", sizes[random.nextInt(sizes.length)])) {
            return false;
        }
        wishes = random.nextInt(4);
        nones = 2 + random.nextInt(3);
        int[] factors = {0, 1, 3, 3, 3, 9};
        for (int i = 0; i < MIX.length; i++) {
            weights[i] = (Integer) MIX[i][1] * (i == 0 ? 3 : factors[random.nextInt(factors.length)]);
        }
        if (!same("keeper", run % 7) || !same("barrier", random.nextInt(3), random.nextInt(3) == 0)) {
            return false;
        }
        while (calls.size() < CALLS) {
            if (!next() || !texts()) {
                return false;
            }
            if (calls.size() % 40 == 0 && !same("digest")) {
                return false;
            }
        }
        for (int i = 0; i < 10; i++) {
            SEEN.merge("counted" + i, model.counted(i), Integer::sum);
        }
        return true;
    }

    private boolean texts() throws Exception {
        for (String text : TEXTS) {
            Object got = Heapkeep.class.getMethod(text).invoke(real);
            Object due = Model.class.getMethod(text).invoke(model);
            if (!got.equals(due)) {
                calls.add(text + "() answered " + got + ", due is " + due);
                return false;
            }
        }
        for (int i = 0; i < 10; i++) {
            if (real.counted(i) != model.counted(i)) {
                calls.add("counted(" + i + ") answered " + real.counted(i) + ", due is " + model.counted(i));
                return false;
            }
        }
        return true;
    }

    private boolean next() throws Exception {
        int at = random.nextInt(Arrays.stream(weights).sum());
        int pick = 0;
        while (at >= weights[pick]) {
            at -= weights[pick];
            pick++;
        }
        return call((String) MIX[pick][0]);
    }

    private boolean call(String name) throws Exception {
        switch (name) {
            case "hide": return hide();
            case "size": return random.nextInt(20) > 0 || same(name, wild(16, 128));
            case "make": return same(name, slot(), wild(0, 6), random.nextInt(8) < wishes);
            case "refer": return same(name, slot(), wild(1, 3), object());
            case "local": case "global": return same(name, slot(), objectOrNone());
            case "store": return same(name, object(), field(), objectOrNone());
            case "load": return same(name, slot(), object(), field());
            case "get": return same(name, slot(), reference());
            case "keeper": return same(name, random.nextInt(3) == 0 ? wild(0, 6) : model.house(3));
            case "collect": case "would": return same(name, random.nextInt(3) == 0);
            case "step": return same(name, random.nextInt(4) == 0 ? wild(1, 60) : wild(1, 4));
            case "barrier": return same(name, wild(0, 2), random.nextInt(3) == 0);
            case "finish": return same(name, wild(-1, 3));
            case "path": return same(name, object());
            case "cost": return same(name, wild(0, 6));
            case "fits": return same(name, wild(1, 7));
            case "ofObject": return same(name, object(), wild(0, 10));
            case "field": return same(name, object(), field());
            case "localOf": return same(name, wild(0, 4), slot());
            case "house": return same(name, wild(0, 12));
            case "counted": return same(name, wild(0, 9));
            default: return same(name);
        }
    }

    /** Takes what is white from where it stood into a black one: what loses it without a barrier. */
    private boolean hide() throws Exception {
        int first = model.told();
        boolean isSame = same("local", 0, -1) && same("local", 1, -1) && same("make", 0, 2, false)
                && same("make", 1, 1, false) && same("make", 2, random.nextInt(3), false)
                && same("store", first + 1, 0, first + 2) && same("local", 2, -1)
                && same("begin") && same("step", 1 + random.nextInt(4));
        return isSame && same("load", 3, first + 1, 0)
                && same("store", first, random.nextInt(2), first + 2)
                && same("store", first + 1, 0, -1) && same("local", 3, -1);
    }

    private int wild(int least, int most) {
        int pick = random.nextInt(40);
        return pick == 0 ? least - 1 : pick == 1 ? most + 1 : least + random.nextInt(most - least + 1);
    }

    private int slot() {
        return wild(0, 3);
    }

    private int field() {
        return random.nextInt(3) == 0 ? wild(0, 5) : wild(0, 2);
    }

    private int object() {
        List<Integer> names = model.reachedNames();
        if (names.isEmpty() || random.nextInt(20) == 0) {
            return random.nextInt(model.told() + 3) - 2;
        }
        return names.get(random.nextInt(names.size()));
    }

    private int reference() {
        List<Integer> names = model.referenceNames();
        return names.isEmpty() || random.nextInt(20) == 0
                ? object() : names.get(random.nextInt(names.size()));
    }

    private int objectOrNone() {
        return random.nextInt(nones) == 0 ? -1 : object();
    }

    private boolean same(String name, Object... args) throws Exception {
        Class<?>[] types = new Class<?>[args.length];
        for (int i = 0; i < args.length; i++) {
            types[i] = args[i] instanceof Boolean ? boolean.class : int.class;
        }
        String got = answer(Heapkeep.class.getMethod(name, types), real, args);
        String due = answer(Model.class.getMethod(name, types), model, args);
        SEEN.merge(due.startsWith("throws") ? name + "!" : name, 1, Integer::sum);
        calls.add(name + Arrays.toString(args) + " answered " + got
                + (got.equals(due) ? "" : ", due is " + due));
        return got.equals(due);
    }

    private static String answer(Method method, Object object, Object[] args) throws Exception {
        try {
            return String.valueOf(method.invoke(object, args));
        } catch (InvocationTargetException e) {
            if (e.getCause() instanceof Error) {
                throw (Error) e.getCause();
            }
            // The very class, for what the machine throws is a class below that of the document.
            return "throws " + e.getCause().getClass().getName();
        }
    }
}
