import java.util.Set;
import java.util.TreeSet;

/** Compares answers with those that are due, and tells the promises that were looked at. */
final class Due {
    static final Class<? extends Exception> INDEX = IndexOutOfBoundsException.class;
    static final Class<? extends Exception> ARGUMENT = IllegalArgumentException.class;
    static final Class<? extends Exception> STATE = IllegalStateException.class;

    interface Call {
        Object answer();
    }

    private final String title;
    private final Set<Integer> promises = new TreeSet<>();
    private int looks;
    private int wrong;

    Due(String title) {
        this.title = title;
    }

    void is(int promise, String what, Object got, Object due) {
        promises.add(promise);
        looks++;
        if (!String.valueOf(got).equals(String.valueOf(due))) {
            wrong++;
            System.out.println(title + ", promise " + promise + ": " + what + " is " + got + ", due is " + due);
        }
    }

    /** The very class is looked at: what the machine throws by itself is of a class below. */
    void fails(int promise, String what, Class<? extends Exception> due, Call call) {
        String got;
        try {
            got = "the answer " + call.answer();
        } catch (RuntimeException e) {
            got = e.getClass().getName();
        }
        is(promise, what, got, due.getName());
    }

    /** The call throws, and nothing that the digest tells is another thing afterwards. */
    void failsAndChangesNothing(int promise, String what, Class<? extends Exception> due, Heapkeep heap, Call call) {
        String before = heap.digest() + "|" + heap.shape() + "|" + heap.row();
        fails(promise, what, due, call);
        is(promise, what + " changes nothing", heap.digest() + "|" + heap.shape() + "|" + heap.row(), before);
    }

    void end() {
        System.out.println(title + ": " + looks + " looks at promises " + promises + ", " + wrong + " wrong");
        if (wrong != 0) {
            System.exit(1);
        }
    }
}
