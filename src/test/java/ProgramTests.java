/** Promises 1 to 11: what a program does. */
public final class ProgramTests {
    private static final Due due = new Due("ProgramTests");

    public static void main(String[] args) {
        newObject();
        size();
        make();
        makeCollects();
        makeCollectsYoung();
        makeCollectsYoungInVain();
        makeCollectsHard();
        makeWithoutRoom();
        makeWithoutRoomInACycle();
        makeWithoutRoomForYoung();
        refer();
        local();
        global();
        store();
        load();
        get();
        frames();
        due.end();
    }

    private static void newObject() {
        Heapkeep heap = new Heapkeep();
        int[] house = {0, 0, 64, 0, 1, 64, 64, 0, 0, 0, 0, 0, 0};
        for (int what = 0; what < house.length; what++) {
            due.is(1, "house(" + what + ")", heap.house(what), house[what]);
        }
        for (int what = 0; what <= 9; what++) {
            due.is(1, "counted(" + what + ")", heap.counted(what), 0);
        }
        due.is(1, "shape()", heap.shape(), "----");
        due.is(1, "free()", heap.free(), "0+64");
        due.is(1, "waiting()", heap.waiting(), ";");
        due.is(1, "same()", heap.same(), -9);
        heap.make(0, 1, false);
        due.is(1, "another one", new Heapkeep().house(0), 0);
    }

    private static void size() {
        Heapkeep heap = new Heapkeep();
        due.is(2, "size before", heap.size(16), 64);
        due.is(2, "size before", heap.size(128), 16);
        due.is(2, "free()", heap.free(), "0+128");
        heap.make(0, 0, false);
        heap.make(0, 0, false);
        heap.enter();
        heap.keeper(5);
        heap.barrier(2, true);
        heap.collect(false);
        heap.begin();
        heap.keep();
        due.is(2, "size before", heap.size(17), 128);
        int[] house = {0, 0, 17, 0, 1, 17, 17, 0, 0, 0, 0, 0, 0};
        for (int what = 0; what < house.length; what++) {
            due.is(2, "house(" + what + ") anew", heap.house(what), house[what]);
        }
        for (int what = 0; what <= 9; what++) {
            due.is(2, "counted(" + what + ") anew", heap.counted(what), 0);
        }
        due.is(2, "no picture", heap.same(), -9);
        due.fails(2, "back() without a picture", Due.STATE, () -> heap.back());
        due.fails(2, "ofObject() of what never was", Due.INDEX, () -> heap.ofObject(0, 0));
        due.is(2, "names begin anew", heap.make(1, 1, false), 0);
        due.is(2, "locals and fields are empty anew", heap.shape(), "-0-- 0[-]");
        due.failsAndChangesNothing(2, "size(15)", Due.ARGUMENT, heap, () -> heap.size(15));
        due.failsAndChangesNothing(2, "size(129)", Due.ARGUMENT, heap, () -> heap.size(129));
        Heapkeep halves = new Heapkeep();
        halves.keeper(2);
        halves.collect(false);
        halves.size(20);
        due.is(2, "the half anew", halves.house(10), 0);
        sizeForgets();
    }

    /** The same names come again, and nothing of those that had them. */
    private static void sizeForgets() {
        Heapkeep heap = new Heapkeep();
        heap.make(0, 3, true);
        heap.refer(1, 1, 0);
        heap.make(2, 2, true);
        heap.make(3, 1, false);
        for (int field = 0; field < 3; field++) {
            heap.store(0, field, 1);
        }
        heap.keeper(4);
        heap.keeper(0);
        heap.local(2, -1);
        heap.collect(false);
        heap.local(0, -1);
        heap.collect(false);
        due.is(2, "before", heap.waiting(), "1;2 0");
        heap.size(32);
        due.is(2, "waiting anew", heap.waiting(), ";");
        heap.make(0, 3, false);
        heap.make(1, 6, false);
        heap.refer(2, 2, 0);
        heap.local(3, 0);
        due.is(2, "shape anew", heap.shape(), "0120 0[-,-,-] 0[-,-,-,-,-,-] 2[]");
        int[] asked = {heap.ofObject(0, 7), heap.ofObject(0, 3), heap.ofObject(0, 9), heap.ofObject(1, 7), heap.ofObject(1, 9)};
        due.is(2, "objects anew", java.util.Arrays.toString(asked), "[0, 0, -1, 0, -1]");
        Heapkeep old = new Heapkeep();
        old.keeper(4);
        old.make(0, 0, false);
        old.small();
        old.size(16);
        old.make(0, 0, false);
        due.is(2, "age anew", old.ofObject(0, 3), 0);
        due.is(2, "gone by size()", old.free(), "1+15");
    }

    private static void make() {
        Heapkeep heap = new Heapkeep();
        for (int fields = 0; fields <= 6; fields++) {
            due.is(3, "the name", heap.make(fields % 4, fields, fields % 2 == 1), fields);
            due.is(3, "plain", heap.ofObject(fields, 0), 0);
            due.is(3, "how many fields", heap.ofObject(fields, 1), fields);
            due.is(3, "age", heap.ofObject(fields, 3), 0);
            due.is(3, "a wish", heap.ofObject(fields, 7), fields % 2);
            due.is(3, "referent", heap.ofObject(fields, 9), -1);
            due.is(3, "the local", heap.localOf(0, fields % 4), fields);
            due.is(3, "field 0", heap.field(fields, 0), fields == 0 ? -9 : -1);
            due.is(3, "field 5", heap.field(fields, 5), fields == 6 ? -1 : -9);
        }
        due.is(3, "cells", heap.row(), "0:0 1:1 3:2 6:3 10:4 15:5 21:6");
        heap.enter();
        heap.make(2, 0, false);
        due.is(3, "the top frame alone", heap.localOf(1, 2) + " " + heap.localOf(0, 2), "7 6");
        due.failsAndChangesNothing(3, "slot -1", Due.INDEX, heap, () -> heap.make(-1, 0, false));
        due.failsAndChangesNothing(3, "slot 4, named first", Due.INDEX, heap, () -> heap.make(4, 7, false));
        due.failsAndChangesNothing(3, "fields -1", Due.ARGUMENT, heap, () -> heap.make(0, -1, false));
        due.failsAndChangesNothing(3, "fields 7", Due.ARGUMENT, heap, () -> heap.make(3, 7, false));
    }

    private static String collections(Heapkeep heap) {
        return heap.counted(1) + " whole " + heap.counted(2) + " small " + heap.counted(0) + " went";
    }

    private static void makeCollects() {
        Heapkeep heap = new Heapkeep();
        heap.size(16);
        heap.make(0, 6, false);
        heap.make(0, 6, false);
        due.is(3, "collections", collections(heap), "0 whole 0 small 0 went");
        heap.make(1, 2, false);
        due.is(3, "collections", collections(heap), "1 whole 0 small 1 went");
        due.is(3, "where it lies", heap.row(), "0:2 7:1");
        heap.make(2, 3, false);
        heap.make(3, 1, false);
        due.is(3, "all is full", heap.free(), "");
        due.is(3, "collections", collections(heap), "1 whole 0 small 1 went");
    }

    private static void makeCollectsYoung() {
        Heapkeep heap = new Heapkeep();
        heap.keeper(4);
        heap.make(0, 6, false);
        heap.make(0, 6, false);
        heap.make(0, 0, false);
        due.is(3, "collections", collections(heap), "0 whole 0 small 0 went");
        heap.make(0, 1, false);
        due.is(3, "collections", collections(heap), "0 whole 1 small 2 went");
        due.is(3, "where they lie", heap.row(), "0:2 1:3");
    }

    /** Each object has more cells than the young room, and goes behind it. */
    private static void makeCollectsYoungInVain() {
        Heapkeep heap = new Heapkeep();
        heap.size(20);
        heap.keeper(4);
        heap.make(0, 6, false);
        due.is(3, "collections", collections(heap), "0 whole 1 small 0 went");
        heap.make(1, 6, false);
        due.is(3, "collections", collections(heap), "0 whole 2 small 0 went");
        due.is(3, "where they lie", heap.row(), "5:0 12:1");
        due.failsAndChangesNothing(3, "no room", Due.STATE, heap, () -> heap.make(2, 6, false));
        due.is(3, "collections", collections(heap), "0 whole 2 small 0 went");
        heap.local(1, -1);
        heap.make(2, 6, false);
        due.is(3, "collections", collections(heap), "1 whole 3 small 1 went");
        due.is(3, "where they lie", heap.row(), "5:0 12:2");
    }

    private static void makeCollectsHard() {
        Heapkeep heap = new Heapkeep();
        heap.size(16);
        heap.make(0, 6, false);
        heap.refer(1, 2, 0);
        heap.local(0, -1);
        heap.make(0, 6, false);
        due.is(3, "collections", collections(heap), "0 whole 0 small 0 went");
        heap.make(2, 3, false);
        due.is(3, "collections", collections(heap), "2 whole 0 small 1 went");
        due.is(3, "where they lie", heap.row(), "0:3 7:1 9:2");
        due.is(3, "waiting", heap.waiting(), "1;");
        due.is(3, "costs", heap.counted(6) + " " + heap.counted(7), (3 + 12 + 3) + (2 + 6 + 3) + " " + 18);
    }

    private static void makeWithoutRoom() {
        Heapkeep heap = new Heapkeep();
        heap.size(16);
        heap.make(0, 1, false);
        heap.refer(1, 2, 0);
        heap.local(0, -1);
        heap.make(2, 6, false);
        heap.make(3, 3, true);
        heap.keep();
        due.failsAndChangesNothing(3, "no room", Due.STATE, heap, () -> heap.make(0, 6, false));
        due.is(3, "the soft one holds it still", heap.ofObject(1, 9) + " " + heap.waiting(), "0 ;");
        due.is(3, "collections", collections(heap), "0 whole 0 small 0 went");
        due.is(3, "the next name", heap.make(0, 0, false), 4);
        heap.store(2, 0, 4);
        heap.enter();
        heap.get(0, 1);
        due.failsAndChangesNothing(4, "no room", Due.STATE, heap, () -> heap.refer(3, 1, 0));
        due.failsAndChangesNothing(4, "no room for a soft one", Due.STATE, heap, () -> heap.refer(0, 2, 3));
    }

    private static void makeWithoutRoomInACycle() {
        Heapkeep heap = new Heapkeep();
        heap.size(16);
        heap.keeper(5);
        heap.make(0, 6, false);
        heap.make(1, 6, false);
        heap.barrier(0, true);
        heap.begin();
        heap.step(1);
        due.failsAndChangesNothing(3, "no room in a cycle", Due.STATE, heap, () -> heap.make(2, 6, false));
        due.is(3, "the cycle goes on", heap.house(8) + " " + heap.house(9) + " " + heap.grey(), "1 1 1");
        due.is(3, "the cycle ends", heap.step(60), 7 + 1 + 2);
    }

    private static void makeWithoutRoomForYoung() {
        Heapkeep heap = new Heapkeep();
        heap.size(16);
        heap.keeper(4);
        heap.make(0, 6, false);
        heap.make(1, 3, false);
        heap.make(2, 0, false);
        due.is(3, "where they lie", heap.row(), "0:1 4:0 11:2");
        due.is(3, "one has an age", heap.ofObject(1, 3), 1);
        due.failsAndChangesNothing(3, "no room", Due.STATE, heap, () -> heap.make(3, 6, false));
        due.is(3, "where they lie", heap.row(), "0:1 4:0 11:2");
    }

    private static void refer() {
        Heapkeep heap = new Heapkeep();
        heap.make(0, 1, false);
        for (int kind = 1; kind <= 3; kind++) {
            due.is(4, "the name", heap.refer(kind, kind, 0), kind);
            due.is(4, "kind", heap.ofObject(kind, 0), kind);
            due.is(4, "no fields", heap.ofObject(kind, 1) + " " + heap.field(kind, 0), "0 -9");
            due.is(4, "referent", heap.ofObject(kind, 9), 0);
            due.is(4, "no wish", heap.ofObject(kind, 7), 0);
            due.is(4, "the local", heap.localOf(0, kind), kind);
        }
        due.is(4, "two cells", heap.row() + " " + heap.free(), "0:0 2:1 4:2 6:3 8+56");
        due.is(4, "a referent is not held", heap.ofObject(0, 4), 1);
        heap.enter();
        due.is(4, "of a reference", heap.refer(2, 1, 1), 4);
        due.is(4, "the top frame alone", heap.localOf(1, 2) + " " + heap.localOf(0, 2), "4 2");
        due.failsAndChangesNothing(4, "slot -1", Due.INDEX, heap, () -> heap.refer(-1, 1, 0));
        due.failsAndChangesNothing(4, "slot 4, named first", Due.INDEX, heap, () -> heap.refer(4, 0, 0));
        due.failsAndChangesNothing(4, "object -1, named first", Due.INDEX, heap, () -> heap.refer(0, 0, -1));
        due.failsAndChangesNothing(4, "object 5", Due.INDEX, heap, () -> heap.refer(0, 1, 5));
        due.failsAndChangesNothing(4, "kind 0", Due.ARGUMENT, heap, () -> heap.refer(0, 0, 0));
        due.failsAndChangesNothing(4, "kind 4", Due.ARGUMENT, heap, () -> heap.refer(0, 4, 0));
        heap.global(0, -1);
        due.failsAndChangesNothing(4, "kind named first", Due.ARGUMENT, heap, () -> heap.refer(0, 4, 0));
        due.failsAndChangesNothing(4, "not reached by a soft one", Due.STATE, heap, () -> heap.refer(0, 1, 0));
        heap.collect(true);
        due.failsAndChangesNothing(4, "gone", Due.STATE, heap, () -> heap.refer(0, 1, 0));
    }

    private static void local() {
        Heapkeep heap = new Heapkeep();
        heap.make(0, 1, false);
        heap.make(1, 0, false);
        due.is(5, "held before", heap.local(0, 1), 0);
        due.is(5, "holds", heap.localOf(0, 0), 1);
        due.failsAndChangesNothing(5, "not reached", Due.STATE, heap, () -> heap.local(2, 0));
        due.is(5, "held before", heap.local(3, 1) + " " + heap.local(1, -1) + " " + heap.local(0, -1), "-1 1 1");
        due.is(5, "shape", heap.shape(), "---0 0[]");
        heap.enter();
        due.is(5, "the top frame", heap.local(3, -1) + " " + heap.local(2, 1) + " " + heap.shape(), "-1 -1 ---0 --0- 0[]");
        heap.collect(false);
        due.failsAndChangesNothing(5, "gone", Due.STATE, heap, () -> heap.local(2, 0));
        due.failsAndChangesNothing(5, "slot -1", Due.INDEX, heap, () -> heap.local(-1, 1));
        due.failsAndChangesNothing(5, "slot 4, named first", Due.INDEX, heap, () -> heap.local(4, 0));
        due.failsAndChangesNothing(5, "object -2", Due.INDEX, heap, () -> heap.local(0, -2));
        due.failsAndChangesNothing(5, "object 2", Due.INDEX, heap, () -> heap.local(0, 2));
    }

    private static void global() {
        Heapkeep heap = new Heapkeep();
        heap.make(0, 1, false);
        heap.enter();
        heap.enter();
        heap.make(1, 0, false);
        due.is(6, "held before", heap.global(1, 1) + " " + heap.global(0, -1), "-1 0");
        due.is(6, "the frame 0", heap.shape(), "-0-- ---- -0-- 0[]");
        due.failsAndChangesNothing(6, "not reached", Due.STATE, heap, () -> heap.global(2, 0));
        due.is(6, "held before", heap.global(1, -1), 1);
        heap.collect(false);
        due.failsAndChangesNothing(6, "gone", Due.STATE, heap, () -> heap.global(2, 0));
        due.failsAndChangesNothing(6, "slot -1", Due.INDEX, heap, () -> heap.global(-1, 1));
        due.failsAndChangesNothing(6, "slot 4, named first", Due.INDEX, heap, () -> heap.global(4, 0));
        due.failsAndChangesNothing(6, "object -2", Due.INDEX, heap, () -> heap.global(0, -2));
        due.failsAndChangesNothing(6, "object 2", Due.INDEX, heap, () -> heap.global(0, 2));
        heap.leave();
        heap.leave();
        due.is(6, "nothing is left", heap.shape(), "----");
    }

    private static void store() {
        Heapkeep heap = new Heapkeep();
        heap.make(0, 6, false);
        heap.make(1, 1, false);
        due.is(7, "held before", heap.store(0, 5, 1) + " " + heap.store(0, 0, 0) + " " + heap.store(0, 5, -1)
                + " " + heap.store(0, 5, 0), "-1 -1 1 -1");
        due.is(7, "fields", heap.shape(), "01-- 0[0,-,-,-,-,0] 0[-]");
        heap.refer(2, 1, 1);
        heap.make(3, 0, false);
        due.failsAndChangesNothing(7, "no such field", Due.STATE, heap, () -> heap.store(1, 1, 0));
        due.failsAndChangesNothing(7, "no field at all", Due.STATE, heap, () -> heap.store(3, 0, 0));
        due.failsAndChangesNothing(7, "of a reference", Due.STATE, heap, () -> heap.store(2, 0, 0));
        heap.local(3, -1);
        due.failsAndChangesNothing(7, "a value not reached", Due.STATE, heap, () -> heap.store(0, 1, 3));
        due.failsAndChangesNothing(7, "an object not reached", Due.STATE, heap, () -> heap.store(3, 0, 0));
        heap.local(0, 1);
        due.failsAndChangesNothing(7, "an object with fields not reached", Due.STATE, heap, () -> heap.store(0, 1, -1));
        heap.collect(false);
        due.failsAndChangesNothing(7, "an object with fields gone", Due.STATE, heap, () -> heap.store(0, 1, -1));
        due.failsAndChangesNothing(7, "a value gone", Due.STATE, heap, () -> heap.store(0, 1, 3));
        due.failsAndChangesNothing(7, "an object gone", Due.STATE, heap, () -> heap.store(3, 0, -1));
        due.failsAndChangesNothing(7, "object -1", Due.INDEX, heap, () -> heap.store(-1, 0, 0));
        due.failsAndChangesNothing(7, "object 4", Due.INDEX, heap, () -> heap.store(4, 0, 0));
        due.failsAndChangesNothing(7, "field -1, named first", Due.INDEX, heap, () -> heap.store(3, -1, 0));
        due.failsAndChangesNothing(7, "field 6, named first", Due.INDEX, heap, () -> heap.store(3, 6, 0));
        due.failsAndChangesNothing(7, "value -2, named first", Due.INDEX, heap, () -> heap.store(3, 0, -2));
        due.failsAndChangesNothing(7, "value 4, named first", Due.INDEX, heap, () -> heap.store(3, 0, 4));
    }

    private static void load() {
        Heapkeep heap = new Heapkeep();
        heap.make(0, 6, false);
        heap.make(1, 1, false);
        heap.store(0, 5, 1);
        heap.local(1, -1);
        due.is(8, "what it holds", heap.load(2, 0, 5) + " " + heap.localOf(0, 2), "1 1");
        due.is(8, "nothing", heap.load(2, 0, 4) + " " + heap.localOf(0, 2), "-1 -1");
        heap.enter();
        due.is(8, "in the top frame", heap.load(0, 1, 0) + heap.load(3, 0, 5) + " " + heap.shape(),
                "0 0--- ---1 0[-,-,-,-,-,1] 0[-]");
        due.failsAndChangesNothing(8, "no such field", Due.STATE, heap, () -> heap.load(0, 1, 1));
        heap.refer(2, 2, 1);
        due.failsAndChangesNothing(8, "of a reference", Due.STATE, heap, () -> heap.load(0, 2, 0));
        heap.local(2, -1);
        heap.local(0, -1);
        heap.global(0, -1);
        due.failsAndChangesNothing(8, "not reached", Due.STATE, heap, () -> heap.load(0, 0, 5));
        heap.collect(false);
        due.failsAndChangesNothing(8, "gone", Due.STATE, heap, () -> heap.load(0, 0, 5));
        due.failsAndChangesNothing(8, "slot -1, named first", Due.INDEX, heap, () -> heap.load(-1, 2, 0));
        due.failsAndChangesNothing(8, "slot 4", Due.INDEX, heap, () -> heap.load(4, 0, 0));
        due.failsAndChangesNothing(8, "object -1", Due.INDEX, heap, () -> heap.load(0, -1, 0));
        due.failsAndChangesNothing(8, "object 3", Due.INDEX, heap, () -> heap.load(0, 3, 0));
        due.failsAndChangesNothing(8, "field -1, named first", Due.INDEX, heap, () -> heap.load(0, 2, -1));
        due.failsAndChangesNothing(8, "field 6", Due.INDEX, heap, () -> heap.load(0, 0, 6));
    }

    private static void get() {
        Heapkeep heap = new Heapkeep();
        heap.make(0, 0, false);
        for (int kind = 1; kind <= 3; kind++) {
            heap.refer(kind, kind, 0);
        }
        due.failsAndChangesNothing(9, "of a plain one", Due.STATE, heap, () -> heap.get(0, 0));
        heap.enter();
        due.is(9, "of a weak one", heap.get(0, 1) + " " + heap.localOf(1, 0), "0 0");
        due.is(9, "of a soft one", heap.get(1, 2) + " " + heap.localOf(1, 1), "0 0");
        due.is(9, "of a last one", heap.get(1, 3) + " " + heap.localOf(1, 1), "-1 -1");
        heap.local(0, -1);
        heap.global(0, -1);
        due.is(9, "of what is not reached", heap.get(0, 1) + " " + heap.ofObject(0, 6), "0 1");
        heap.local(0, -1);
        heap.collect(true);
        due.is(9, "of cleared ones", heap.get(0, 1) + " " + heap.get(0, 2) + " " + heap.get(0, 3), "-1 -1 -1");
        due.failsAndChangesNothing(9, "gone", Due.STATE, heap, () -> heap.get(0, 0));
        heap.global(1, -1);
        due.failsAndChangesNothing(9, "not reached", Due.STATE, heap, () -> heap.get(0, 1));
        due.failsAndChangesNothing(9, "slot -1, named first", Due.INDEX, heap, () -> heap.get(-1, 1));
        due.failsAndChangesNothing(9, "slot 4", Due.INDEX, heap, () -> heap.get(4, 2));
        due.failsAndChangesNothing(9, "object -1", Due.INDEX, heap, () -> heap.get(0, -1));
        due.failsAndChangesNothing(9, "object 4", Due.INDEX, heap, () -> heap.get(0, 4));
    }

    private static void frames() {
        Heapkeep heap = new Heapkeep();
        heap.make(0, 0, false);
        due.failsAndChangesNothing(11, "one frame", Due.STATE, heap, () -> heap.leave());
        for (int frames = 2; frames <= 5; frames++) {
            due.is(10, "how many frames", heap.enter() + " " + heap.house(4), frames + " " + frames);
            due.is(10, "its locals", heap.localOf(frames - 1, 0) + heap.localOf(frames - 1, 3), -2);
            heap.local(frames - 2, 0);
        }
        due.is(10, "five frames", heap.shape(), "0--- 0--- -0-- --0- ---0 0[]");
        due.failsAndChangesNothing(10, "five frames", Due.STATE, heap, () -> heap.enter());
        due.is(11, "how many frames", heap.leave() + " " + heap.shape(), "4 0--- 0--- -0-- --0- 0[]");
        due.is(10, "empty anew", heap.enter() + " " + heap.shape(), "5 0--- 0--- -0-- --0- ---- 0[]");
        due.is(11, "how many frames", heap.leave() + heap.leave() + heap.leave() + heap.leave(), 4 + 3 + 2 + 1);
        due.is(11, "locals of the frame 0", heap.shape(), "0--- 0[]");
        Heapkeep counts = new Heapkeep();
        counts.keeper(6);
        counts.enter();
        counts.make(0, 0, false);
        counts.leave();
        due.is(11, "what its locals held goes by counts", counts.house(0), 0);
    }
}
