import java.util.Set;
import java.util.TreeSet;

/** Compares answers with those that are due, and tells the promises that were looked at. */
final class Due {
    static final Class<? extends Exception> INDEX = IndexOutOfBoundsException.class;
    static final Class<? extends Exception> ARGUMENT = IllegalArgumentException.class;
    static final Class<? extends Exception> STATE = IllegalStateException.class;

    interface Call {
        Object answer();
    }

    private final String title;
    private final Set<Integer> promises = new TreeSet<>();
    private String sentence = "";
    private int looks;
    private int wrong;

    Due(String title) {
        this.title = title;
    }

    /** The words of the document that what follows holds to; SentenceTests looks whether they stand there. */
    void sentence(String words) {
        sentence = " (" + words + ")";
    }

    void is(int promise, String what, Object got, Object due) {
        promises.add(promise);
        looks++;
        if (!String.valueOf(got).equals(String.valueOf(due))) {
            wrong++;
            System.out.println(title + ", promise " + promise + ": " + what + " is " + got + ", due is " + due + sentence);
        }
    }

    /** The very class is looked at: what the machine throws by itself is of a class below. */
    void fails(int promise, String what, Class<? extends Exception> due, Call call) {
        String got;
        try {
            got = "the answer " + call.answer();
        } catch (RuntimeException e) {
            got = e.getClass().getName();
        }
        is(promise, what, got, due.getName());
    }

    /** The call throws, and nothing that can be asked is another thing afterwards. */
    void failsAndChangesNothing(int promise, String what, Class<? extends Exception> due, Heapkeep heap, Call call) {
        String before = Twins.look(heap);
        fails(promise, what, due, call);
        is(promise, what + " changes nothing", Twins.look(heap), before);
    }

    /** The call throws, and neither what can be asked nor what comes later is another thing by that. */
    void refused(int promise, String what, Class<? extends Exception> due, Twins.Maker maker, Twins.Act act) {
        is(promise, what, changingNothing(promise, what, maker, act), "throws " + due.getName());
    }

    /** Returns the answer of a call that is to change nothing. */
    String changingNothing(int promise, String what, Twins.Maker maker, Twins.Act act) {
        Heapkeep one = maker.make();
        Heapkeep other = maker.make();
        String answer = Twins.answer(one, act);
        is(promise, what + " changes nothing", Twins.look(one), Twins.look(other));
        is(promise, what + " changes nothing of what comes", Twins.aftermath(one), Twins.aftermath(other));
        return answer;
    }

    void end() {
        System.out.println(title + ": " + looks + " looks at promises " + promises + ", " + wrong + " wrong");
        if (wrong != 0) {
            System.exit(1);
        }
    }
}
