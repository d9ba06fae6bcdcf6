/**
 * Each argument of each call: the least and the greatest value that is allowed, and the first ones beyond (and
 * those far beyond), with heaps of each keeper and with a new one; what is refused changes nothing.
 */
public final class EdgeArgumentTests {
    private static final Due due = new Due("EdgeArgumentTests");

    interface With {
        Object on(Heapkeep heap, int value);
    }

    interface Bound {
        int of(Heapkeep heap);
    }

    public static void main(String[] args) {
        size();
        make();
        refer();
        local();
        global();
        store();
        load();
        get();
        keeper();
        step();
        barrier();
        finish();
        ofObject();
        field();
        localOf();
        path();
        fits();
        cost();
        house();
        counted();
        due.end();
    }

    // ---- what a program does

    private static void size() {
        due.sentence("Throws `IllegalArgumentException` if cells is not 16 to 128");
        edgeAnew(2, "cells", 16, 128, Due.ARGUMENT, (h, v) -> h.size(v));
        due.sentence("There are SIZE CELLS (16 to 128; 64 at first)");
        Heapkeep heap = new Heapkeep();
        due.is(2, "at first, then the least", heap.size(16) + " " + heap.house(2) + " " + heap.free(), "64 16 0+16");
        due.is(2, "then the greatest", heap.size(128) + " " + heap.house(2) + " " + heap.free(), "16 128 0+128");
        due.is(2, "the same one again", heap.size(128) + " " + heap.house(2), "128 128");
    }

    private static void make() {
        due.sentence("Throws `IndexOutOfBoundsException` if slot is not 0 to 3");
        edgeAnew(3, "slot", 0, 3, Due.INDEX, (h, v) -> h.make(v, 0, false));
        due.sentence("Throws `IllegalArgumentException` if fields is not 0 to 6");
        edgeAnew(3, "fields", 0, 6, Due.ARGUMENT, (h, v) -> h.make(0, v, true));
        due.sentence("0 PLAIN, with 0 to 6 FIELDS");
        Heapkeep heap = new Heapkeep();
        heap.make(0, 0, false);
        heap.make(3, 6, false);
        due.is(3, "the least and the most fields", heap.ofObject(0, 1) + " " + heap.ofObject(1, 1) + " " + heap.shape(),
                "0 6 0--1 0[] 0[-,-,-,-,-,-]");
    }

    private static void refer() {
        due.sentence("if slot is not 0 to 3, or there never was such an OBJECT");
        edge(4, "slot", 0, 3, Due.INDEX, (h, v) -> h.refer(v, 1, 0));
        edgeAnew(4, "object", h -> 0, h -> h.house(1) - 1, Due.INDEX, (h, v) -> h.refer(0, 1, v));
        due.sentence("Throws `IllegalArgumentException` if kind is not 1 to 3");
        edge(4, "kind", 1, 3, Due.ARGUMENT, (h, v) -> h.refer(0, v, 0));
        Heapkeep heap = new Heapkeep();
        heap.make(0, 0, false);
        heap.refer(0, 1, 0);
        heap.refer(3, 3, 1);
        due.is(4, "kinds and slots", heap.ofObject(1, 0) + " " + heap.ofObject(2, 0) + " " + heap.shape(), "1 3 0--1 1[] 3[]");
    }

    private static void local() {
        due.sentence("if slot is not 0 to 3, or there never was such an OBJECT");
        edgeAnew(5, "slot", 0, 3, Due.INDEX, (h, v) -> h.local(v, -1));
        edgeAnew(5, "object", h -> -1, h -> h.house(1) - 1, Due.INDEX, (h, v) -> h.local(0, v));
        due.sentence("`slot`: a LOCAL of the TOP frame");
        Heapkeep heap = twoFrames();
        due.is(5, "the least and the greatest", heap.local(0, 1) + " " + heap.local(3, 0) + " " + heap.shape(),
                "-1 1 01-- 1--0 0[] 0[]");
    }

    private static void global() {
        due.sentence("if slot is not 0 to 3, or there never was such an OBJECT");
        edgeAnew(6, "slot", 0, 3, Due.INDEX, (h, v) -> h.global(v, -1));
        edgeAnew(6, "object", h -> -1, h -> h.house(1) - 1, Due.INDEX, (h, v) -> h.global(0, v));
        due.sentence("`slot`: a LOCAL of the frame 0");
        Heapkeep heap = twoFrames();
        due.is(6, "the least and the greatest", heap.global(0, -1) + " " + heap.global(3, 1) + " " + heap.shape(),
                "0 -1 -0-0 ---0 0[]");
    }

    private static void store() {
        due.sentence("if there never was such an OBJECT, of both, or field is not 0 to 5");
        edgeAnew(7, "object", h -> 0, h -> h.house(1) - 1, Due.INDEX, (h, v) -> h.store(v, 0, -1));
        edge(7, "field", 0, 5, Due.INDEX, (h, v) -> h.store(0, v, -1));
        edge(7, "value", h -> -1, h -> h.house(1) - 1, Due.INDEX, (h, v) -> h.store(0, 0, v));
        due.sentence("or the first one has no such FIELD");
        for (int fields = 0; fields <= 6; fields++) {
            int many = fields;
            for (int field = 0; field <= 5; field++) {
                int at = field;
                Twins.Maker maker = () -> one(many);
                if (field < fields) {
                    due.is(7, "a field", Twins.answer(maker.make(), h -> h.store(0, at, 0) + " " + h.store(0, at, -1)), "-1 0");
                } else {
                    due.refused(7, "a field that it has not", Due.STATE, maker, h -> h.store(0, at, 0));
                }
            }
        }
    }

    private static void load() {
        due.sentence("if slot is not 0 to 3, there never was such an OBJECT, or field is not 0 to 5");
        edge(8, "slot", 0, 3, Due.INDEX, (h, v) -> h.load(v, 0, 0));
        edgeAnew(8, "object", h -> 0, h -> h.house(1) - 1, Due.INDEX, (h, v) -> h.load(0, v, 0));
        edge(8, "field", 0, 5, Due.INDEX, (h, v) -> h.load(0, 0, v));
        due.sentence("if it is not REACHED, or has no such FIELD");
        for (int fields = 0; fields <= 6; fields++) {
            int many = fields;
            for (int field = 0; field <= 5; field++) {
                int at = field;
                Twins.Maker maker = () -> one(many);
                if (field < fields) {
                    due.is(8, "a field", Twins.answer(maker.make(), h -> h.load(3, 0, at)), "-1");
                } else {
                    due.refused(8, "a field that it has not", Due.STATE, maker, h -> h.load(3, 0, at));
                }
            }
        }
    }

    private static void get() {
        due.sentence("if slot is not 0 to 3, or there never was such an OBJECT");
        edge(9, "slot", 0, 3, Due.INDEX, (h, v) -> h.get(v, 6));
        edgeAnew(9, "object", h -> 0, h -> h.house(1) - 1, Due.INDEX, (h, v) -> h.get(0, v));
    }

    // ---- keepers

    private static void keeper() {
        due.sentence("Throws `IllegalArgumentException` if kind is not 0 to 6");
        edgeAnew(12, "kind", 0, 6, Due.ARGUMENT, (h, v) -> h.keeper(v));
        Heapkeep heap = new Heapkeep();
        due.is(12, "the greatest, then the least", heap.keeper(6) + " " + heap.keeper(0) + " " + heap.house(3), "0 6 0");
    }

    private static void step() {
        due.sentence("Throws `IllegalArgumentException` if budget is not 1 to 60");
        edgeAnew(16, "budget", 1, 60, Due.ARGUMENT, (h, v) -> h.step(v));
    }

    private static void barrier() {
        due.sentence("Throws `IllegalArgumentException` if store is not 0 to 2");
        edgeAnew(17, "store", 0, 2, Due.ARGUMENT, (h, v) -> h.barrier(v, true));
        Heapkeep heap = new Heapkeep();
        due.is(17, "the greatest, then the least", heap.barrier(2, false) + " " + heap.barrier(0, false) + " " + heap.house(11),
                "0 2 0");
    }

    private static void finish() {
        due.sentence("Throws `IndexOutOfBoundsException` if slot is not NONE to 3");
        edgeAnew(18, "slot", -1, 3, Due.INDEX, (h, v) -> h.finish(v));
        due.is(18, "the least", Twins.rich(0).finish(-1), 3);
        due.sentence("the LOCAL (if one is told) holds it");
        Heapkeep none = Twins.rich(0);
        String before = none.shape();
        none.finish(-1);
        due.is(18, "none is told", none.shape(), before);
        Heapkeep greatest = Twins.rich(0);
        greatest.finish(3);
        due.is(18, "the greatest is told", greatest.localOf(1, 3), 3);
        Heapkeep least = Twins.rich(0);
        least.finish(0);
        due.is(18, "the least is told", least.localOf(1, 0), 3);
    }

    // ---- what is asked

    private static void ofObject() {
        due.sentence("Throws `IndexOutOfBoundsException` if there never was such an OBJECT");
        edgeAnew(24, "object", h -> 0, h -> h.house(1) - 1, Due.INDEX, (h, v) -> h.ofObject(v, 0));
        due.sentence("Throws `IllegalArgumentException` if what is not 0 to 10");
        edge(24, "what", 0, 10, Due.ARGUMENT, (h, v) -> h.ofObject(0, v));
        edge(24, "what of one that is gone", 0, 10, Due.ARGUMENT, (h, v) -> h.ofObject(1, v));
    }

    private static void field() {
        due.sentence("if there never was such an OBJECT, or field is not 0 to 5");
        edgeAnew(25, "object", h -> 0, h -> h.house(1) - 1, Due.INDEX, (h, v) -> h.field(v, 0));
        edge(25, "field", 0, 5, Due.INDEX, (h, v) -> h.field(0, v));
        edge(25, "field of one that is gone", 0, 5, Due.INDEX, (h, v) -> h.field(1, v));
        due.sentence("-9, if it is gone, or has no such FIELD");
        for (int fields = 0; fields <= 6; fields++) {
            Heapkeep heap = one(fields);
            for (int field = 0; field <= 5; field++) {
                due.is(25, "the field " + field + " of " + fields, heap.field(0, field), field < fields ? -1 : -9);
            }
        }
    }

    private static void localOf() {
        due.sentence("Throws `IndexOutOfBoundsException` if there is no such frame, or slot is not 0 to 3");
        edgeAnew(26, "frame", h -> 0, h -> h.house(4) - 1, Due.INDEX, (h, v) -> h.localOf(v, 0));
        edgeAnew(26, "slot", 0, 3, Due.INDEX, (h, v) -> h.localOf(0, v));
        Heapkeep heap = new Heapkeep();
        for (int frames = 1; frames <= 5; frames++) {
            due.is(26, "the last frame", heap.localOf(frames - 1, 3), -1);
            int beyond = frames;
            due.fails(26, "a frame that is not there", Due.INDEX, () -> heap.localOf(beyond, 3));
            if (frames < 5) {
                heap.enter();
            }
        }
        heap.leave();
        due.fails(26, "a frame that went", Due.INDEX, () -> heap.localOf(4, 0));
    }

    private static void path() {
        due.sentence("Throws `IndexOutOfBoundsException` if there never was such an OBJECT");
        edgeAnew(27, "object", h -> 0, h -> h.house(1) - 1, Due.INDEX, (h, v) -> h.path(v));
    }

    private static void fits() {
        due.sentence("Throws `IllegalArgumentException` if cells is not 1 to 7");
        edgeAnew(30, "cells", 1, 7, Due.ARGUMENT, (h, v) -> h.fits(v));
    }

    private static void cost() {
        due.sentence("Throws `IllegalArgumentException` if kind is not 0 to 6");
        edgeAnew(32, "kind", 0, 6, Due.ARGUMENT, (h, v) -> h.cost(v));
    }

    private static void house() {
        due.sentence("Throws `IllegalArgumentException` if what is not 0 to 12");
        edgeAnew(37, "what", 0, 12, Due.ARGUMENT, (h, v) -> h.house(v));
    }

    private static void counted() {
        due.sentence("Throws `IllegalArgumentException` if what is not 0 to 9");
        edgeAnew(38, "what", 0, 9, Due.ARGUMENT, (h, v) -> h.counted(v));
    }

    // ---- what the tests have in common

    /** The object 0 is held in the frame 0 alone, the object 1 in both. */
    private static Heapkeep twoFrames() {
        Heapkeep heap = new Heapkeep();
        heap.make(0, 0, false);
        heap.make(1, 0, false);
        heap.enter();
        heap.local(3, 1);
        return heap;
    }

    private static Heapkeep one(int fields) {
        Heapkeep heap = new Heapkeep();
        heap.make(0, fields, false);
        return heap;
    }

    /** With a new heap, too: for what needs no object that is there. */
    private static void edgeAnew(int promise, String what, Bound least, Bound most, Class<? extends Exception> beyond, With call) {
        edgeOf(promise, what + ", a new one", () -> new Heapkeep(), least, most, beyond, call);
        edge(promise, what, least, most, beyond, call);
    }

    private static void edgeAnew(int promise, String what, int least, int most, Class<? extends Exception> beyond, With call) {
        edgeAnew(promise, what, h -> least, h -> most, beyond, call);
    }

    private static void edge(int promise, String what, int least, int most, Class<? extends Exception> beyond, With call) {
        edge(promise, what, h -> least, h -> most, beyond, call);
    }

    private static void edge(int promise, String what, Bound least, Bound most, Class<? extends Exception> beyond, With call) {
        for (int kind = 0; kind <= 6; kind++) {
            int keeper = kind;
            edgeOf(promise, what + ", keeper " + kind, () -> Twins.rich(keeper), least, most, beyond, call);
        }
    }

    private static void edgeOf(int promise, String what, Twins.Maker maker, Bound leastOf, Bound mostOf,
            Class<? extends Exception> beyond, With call) {
        int least = leastOf.of(maker.make());
        int most = mostOf.of(maker.make());
        for (int value : new int[] {least, most}) {
            if (least <= most) {
                String answer = Twins.answer(maker.make(), h -> call.on(h, value));
                due.is(promise, what + " may be " + value + ", " + answer, answer.equals("throws " + beyond.getName()), false);
            }
        }
        int[] outside = {least - 1, most + 1, least - 2, most + 2, least - 1000, most + 1000, Integer.MIN_VALUE,
            Integer.MIN_VALUE + 1, Integer.MAX_VALUE - 1, Integer.MAX_VALUE};
        for (int value : outside) {
            due.refused(promise, what + " " + value, beyond, maker, h -> call.on(h, value));
        }
    }
}
