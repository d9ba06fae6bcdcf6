/** Sections 1 and 2 at their edges: names, frames, cells, ranges, where a new one lies, and when one collects. */
public final class EdgeCellTests {
    private static final Due due = new Due("EdgeCellTests");

    public static void main(String[] args) {
        names();
        namesOfManyCalls();
        namesRefused();
        cellsOfEach();
        fieldsAtFirst();
        fieldsStay();
        cleared();
        framesFull();
        framesEmptyAnew();
        topFrame();
        rounded();
        emptyHeap();
        fullHeap();
        mostObjects();
        rangesAtTheEnds();
        rangesSideBySide();
        firstRange();
        bestRange();
        bestOfSeveral();
        halfFull();
        halfEmpty();
        halfOfOddSize();
        slideFull();
        youngFull();
        youngTooSmall();
        youngCut();
        youngLastCell();
        youngThenWhole();
        makeWithoutCollection();
        makeWithWhole();
        makeWithHard();
        keeperEmpty();
        keeperFull();
        keeperOrder();
        keeperAges();
        keeperHalf();
        keeperCycle();
        keeperCounts();
        due.end();
    }

    /** Objects of so many cells side by side; those told with a minus go, so that ranges come. */
    private static Heapkeep holes(int size, int keeper, int... cells) {
        Heapkeep heap = new Heapkeep();
        heap.size(size);
        heap.keeper(keeper);
        heap.enter();
        int slot = 0;
        int going = 0;
        for (int many : cells) {
            if (many < 0) {
                heap.global(going, heap.make(3, -many - 1, false));
                heap.local(3, -1);
                going++;
            } else {
                if (slot == 3) {
                    heap.enter();
                    slot = 0;
                }
                heap.make(slot, many - 1, false);
                slot++;
            }
        }
        for (int i = 0; i < going; i++) {
            heap.global(i, -1);
        }
        heap.collect(false);
        return heap;
    }

    private static String fits(Heapkeep heap) {
        StringBuilder text = new StringBuilder();
        for (int cells = 1; cells <= 7; cells++) {
            text.append(cells == 1 ? "" : " ").append(heap.fits(cells));
        }
        return text.toString();
    }

    private static String collections(Heapkeep heap) {
        return heap.counted(1) + " whole " + heap.counted(2) + " small " + heap.counted(0) + " went";
    }

    // ---- objects

    private static void names() {
        due.sentence("OBJECTS have NAMES: 0, 1, 2, ... as they are made; no NAME comes again.");
        Heapkeep heap = new Heapkeep();
        due.is(3, "the first ones", heap.make(0, 0, false) + " " + heap.refer(1, 1, 0) + " " + heap.make(0, 0, false), "0 1 2");
        heap.local(0, -1);
        heap.local(1, -1);
        heap.keep();
        due.is(13, "all go", heap.collect(false), 3);
        due.is(3, "names of those that went do not come again", heap.make(0, 0, false), 3);
        heap.back();
        due.is(21, "nor by back()", heap.make(0, 0, false) + " " + heap.house(1), "4 5");
        due.sentence("no OBJECTS (NAMES begin with 0), one frame, KEEPER 0, no BARRIERS, no PICTURE; what was counted is 0");
        heap.size(64);
        due.is(2, "but by size()", heap.house(1) + " " + heap.make(0, 0, false), "0 0");
    }

    /** 64 cells are full with 64 of them, and then 63 go: ahead of the names 64, 127, .. 505. */
    private static void namesOfManyCalls() {
        due.sentence("An object is used for at most 512 calls after it has been made");
        Heapkeep heap = new Heapkeep();
        for (int name = 0; name < 508; name++) {
            due.is(3, "each call a name", heap.make(0, 0, false), name);
        }
        due.is(37, "names and objects", heap.house(1) + " " + heap.house(0), "508 " + (508 - 8 * 63));
        due.is(38, "collections", heap.counted(1) + " " + heap.counted(0), "8 " + 8 * 63);
        Heapkeep wishes = new Heapkeep();
        for (int name = 0; name < 512; name++) {
            due.is(3, "each call a name", wishes.make(name % 4, name % 3 == 0 ? 0 : 1, false), name);
        }
    }

    private static void namesRefused() {
        due.sentence("A method that throws an exception changes nothing.");
        Heapkeep heap = new Heapkeep();
        heap.size(16);
        heap.make(0, 6, false);
        heap.make(1, 6, false);
        due.fails(3, "no room", Due.STATE, () -> heap.make(2, 6, false));
        due.fails(3, "no such slot", Due.INDEX, () -> heap.make(4, 0, false));
        due.fails(4, "no such kind", Due.ARGUMENT, () -> heap.refer(3, 0, 0));
        due.is(3, "no name was told", heap.house(1) + " " + heap.make(2, 1, false), "2 2");
    }

    private static void cellsOfEach() {
        due.sentence("It takes as many CELLS as it has FIELDS, and one more; a REFERENCE two.");
        for (int fields = 0; fields <= 6; fields++) {
            Heapkeep heap = new Heapkeep();
            heap.make(0, fields, true);
            due.is(3, "cells of " + fields + " fields", heap.free(), (fields + 1) + "+" + (63 - fields));
        }
        for (int kind = 1; kind <= 3; kind++) {
            Heapkeep heap = new Heapkeep();
            heap.make(0, 6, false);
            heap.refer(0, kind, 0);
            due.is(4, "cells of the kind " + kind, heap.free(), "9+55");
        }
        due.sentence("an OBJECT has CELLS side by side; its ADDRESS is the first");
        Heapkeep heap = new Heapkeep();
        heap.make(0, 6, false);
        heap.make(0, 0, false);
        heap.refer(0, 3, 1);
        heap.make(0, 0, false);
        due.is(24, "addresses", heap.ofObject(0, 2) + " " + heap.ofObject(1, 2) + " " + heap.ofObject(2, 2) + " "
                + heap.ofObject(3, 2), "0 7 8 10");
    }

    private static void fieldsAtFirst() {
        due.sentence("Each FIELD holds an OBJECT or NONE (at first).");
        for (int fields = 0; fields <= 6; fields++) {
            Heapkeep heap = new Heapkeep();
            heap.make(0, fields, false);
            for (int field = 0; field <= 5; field++) {
                due.is(25, "a field at first", heap.field(0, field), field < fields ? -1 : -9);
            }
        }
        due.sentence("a REFERENCE, without FIELDS");
        Heapkeep heap = new Heapkeep();
        heap.make(0, 1, false);
        for (int kind = 1; kind <= 3; kind++) {
            int name = heap.refer(kind, kind, 0);
            due.is(24, "fields of a reference", heap.ofObject(name, 1) + " " + heap.field(name, 0) + " " + heap.field(name, 5), "0 -9 -9");
        }
    }

    /** Each object holds itself in all its fields, while others come and go. */
    private static void fieldsStay() {
        due.sentence("Each FIELD holds an OBJECT or NONE (at first).");
        for (int keeper = 0; keeper <= 6; keeper++) {
            Heapkeep heap = new Heapkeep();
            heap.size(128);
            heap.keeper(keeper);
            StringBuilder shape = new StringBuilder("0123");
            for (int name = 0; name < 4; name++) {
                heap.make(name, 6, false);
                for (int field = 0; field < 6; field++) {
                    heap.store(name, field, name);
                }
                shape.append(" 0[" + name + "," + name + "," + name + "," + name + "," + name + "," + name + "]");
                due.is(25, "the fields of " + name, heap.field(name, 0) + " " + heap.field(name, 5), name + " " + name);
            }
            due.is(23, "all fields", heap.shape(), shape.toString());
            heap.enter();
            heap.make(0, 6, false);
            heap.refer(0, 1, 0);
            heap.collect(true);
            heap.small();
            heap.leave();
            due.is(23, "all fields still", heap.shape(), shape.toString());
        }
    }

    private static void cleared() {
        due.sentence("with a REFERENT (an OBJECT; NONE when it is CLEARED)");
        for (int kind = 1; kind <= 3; kind++) {
            Heapkeep heap = new Heapkeep();
            heap.make(0, 0, false);
            int name = heap.refer(1, kind, 0);
            due.is(24, "its referent", heap.ofObject(name, 9), 0);
            heap.local(0, -1);
            heap.collect(true);
            due.is(24, "cleared", heap.ofObject(name, 9) + " " + heap.counted(8) + " " + heap.waiting(), "-1 1 1;");
            due.is(9, "got of a cleared one", heap.get(0, name), -1);
            heap.collect(true);
            due.is(13, "cleared once, in the queue once", heap.counted(8) + " " + heap.waiting(), "1 1;");
            heap.poll();
            heap.collect(true);
            due.is(13, "nor does it come to the queue again", heap.counted(8) + " " + heap.waiting(), "1 ;");
        }
    }

    // ---- frames

    private static void framesFull() {
        due.sentence("a pile of 1 to 5, the lowest one with number 0; each has four LOCALS, 0 to 3, which hold an OBJECT or NONE (at first)");
        Heapkeep heap = new Heapkeep();
        for (int frame = 0; frame < 5; frame++) {
            for (int slot = 0; slot < 4; slot++) {
                due.is(26, "a local at first", heap.localOf(frame, slot), -1);
                heap.make(slot, 0, false);
            }
            if (frame < 4) {
                due.is(10, "how many frames", heap.enter(), frame + 2);
            }
        }
        due.is(37, "five frames, twenty locals", heap.house(4) + " " + heap.house(7), "5 20");
        due.fails(10, "a sixth frame", Due.STATE, () -> heap.enter());
        due.is(13, "none goes", heap.collect(true), 0);
        due.is(26, "the first and the last one", heap.localOf(0, 0) + " " + heap.localOf(4, 3), "0 19");
        for (int frames = 4; frames >= 1; frames--) {
            due.is(11, "how many frames", heap.leave(), frames);
            due.is(11, "its locals went with it", heap.house(7) + " " + heap.collect(false), 4 * frames + " 4");
        }
        due.fails(11, "the last frame", Due.STATE, () -> heap.leave());
    }

    private static void framesEmptyAnew() {
        due.sentence("The TOP frame goes, with its LOCALS.");
        Heapkeep heap = new Heapkeep();
        heap.make(0, 0, false);
        heap.enter();
        for (int slot = 0; slot < 4; slot++) {
            heap.local(slot, 0);
        }
        heap.leave();
        heap.enter();
        due.is(10, "empty anew", heap.shape(), "0--- ---- 0[]");
    }

    private static void topFrame() {
        due.sentence("The TOP frame is the one that came last.");
        Heapkeep heap = new Heapkeep();
        heap.make(0, 1, true);
        heap.enter();
        heap.enter();
        heap.make(0, 1, false);
        heap.local(1, 0);
        heap.refer(2, 1, 0);
        heap.load(3, 0, 0);
        heap.get(3, 2);
        due.is(3, "all four are of the frame 2", heap.shape(), "0--- ---- 1020 0[-] 0[-] 1[]");
        heap.leave();
        heap.make(3, 0, false);
        due.is(3, "then of the frame 1", heap.shape(), "0--- ---1 0[-] 0[]");
        heap.leave();
        heap.make(3, 0, false);
        due.is(3, "and of the frame 0, the only one", heap.shape(), "0--1 0[-] 0[]");
        due.is(6, "that is global() and local()", heap.global(1, 0) + " " + heap.local(1, -1) + " " + heap.shape(), "-1 0 0--1 0[-] 0[]");
    }

    // ---- cells

    private static void rounded() {
        due.sentence("what is divided is rounded down");
        for (int size = 16; size <= 128; size++) {
            Heapkeep heap = new Heapkeep();
            heap.size(size);
            heap.keeper(2);
            heap.collect(false);
            due.is(30, "the half 1 of " + size, heap.fits(1), size / 2);
            heap.keeper(4);
            due.is(30, "an empty young room of " + size, heap.fits(1), 0);
            heap.make(0, 0, false);
            heap.keeper(4);
            due.is(12, "the end of the young room of " + size, heap.ofObject(0, 2), size / 4);
        }
    }

    private static void emptyHeap() {
        due.sentence("Creates a heap with 64 cells, without objects, with one frame.");
        Heapkeep heap = new Heapkeep();
        due.is(1, "what is there", heap.house(0) + " " + heap.house(2) + " " + heap.house(4), "0 64 1");
        due.is(1, "free", heap.free() + " " + heap.house(5) + " " + heap.house(6) + " " + fits(heap), "0+64 64 64 0 0 0 0 0 0 0");
        due.is(1, "texts", heap.shape() + heap.row() + heap.waiting() + heap.would(false) + heap.would(true)
                + heap.remembered() + heap.grey() + heap.unseen(), "----;");
        due.is(1, "calls", heap.poll() + " " + heap.finish(0) + " " + heap.collect(false) + " " + heap.collect(true) + " "
                + heap.keep() + " " + heap.same() + " " + heap.back(), "-1 -1 0 0 0 1 0");
        due.is(1, "sound", heap.isSound(), true);
        due.fails(1, "no object", Due.INDEX, () -> heap.local(0, 0));
    }

    /** By each keeper: with the keeper 2 a half, with the keeper 4 both rooms. */
    private static void fullHeap() {
        due.sentence("FREE are those that no OBJECT has");
        for (int keeper = 0; keeper <= 6; keeper++) {
            Heapkeep heap = new Heapkeep();
            heap.size(keeper == 2 ? 32 : keeper == 4 ? 20 : 16);
            heap.keeper(keeper == 4 ? 3 : keeper);
            heap.make(0, 6, false);
            heap.make(1, 6, false);
            if (keeper == 4) {
                heap.make(2, 0, false);
                heap.keeper(4);
                heap.make(3, 4, false);
            } else {
                heap.make(2, 1, false);
            }
            due.is(29, "free by keeper " + keeper, heap.free(), keeper == 2 ? "16+16" : "");
            due.is(37, "free cells, longest range", heap.house(5) + " " + heap.house(6), keeper == 2 ? "16 16" : "0 0");
            due.is(30, "nothing fits", fits(heap), "-1 -1 -1 -1 -1 -1 -1");
            due.is(40, "sound", heap.isSound(), true);
            due.fails(3, "no room", Due.STATE, () -> heap.make(3, 0, false));
            due.is(3, "all stays", heap.house(0), keeper == 4 ? 4 : 3);
        }
    }

    /** As many as there are cells, all pending. */
    private static void mostObjects() {
        due.sentence("There are SIZE CELLS (16 to 128; 64 at first), numbered from 0");
        Heapkeep heap = new Heapkeep();
        heap.size(128);
        for (int name = 0; name < 128; name++) {
            heap.make(0, 0, true);
        }
        due.is(37, "128 of 128 cells", heap.house(0) + " " + heap.house(5) + " " + heap.free(), "128 0 ");
        due.fails(3, "the last one is reached, the others would be pending", Due.STATE, () -> heap.make(1, 0, false));
        due.is(33, "all as it was", heap.waiting() + heap.counted(1), ";0");
        heap.local(0, -1);
        due.is(13, "all are pending", heap.collect(false) + " " + heap.waiting().length(), "0 " + (1 + 10 + 90 * 2 + 28 * 3 + 127));
        due.fails(3, "those that are pending stay", Due.STATE, () -> heap.make(1, 0, false));
        due.is(24, "the last one's address", heap.ofObject(127, 2), 127);
        due.is(40, "sound", heap.isSound(), true);
    }

    private static void rangesAtTheEnds() {
        due.sentence("a RANGE is as many of them side by side as can be");
        Heapkeep heap = holes(16, 0, -1, 7, 7);
        due.is(29, "the first and the last cell", heap.free() + " " + heap.house(5) + " " + heap.house(6), "0+1 15+1 2 1");
        due.is(30, "two cells apart are no range of two", fits(heap), "0 -1 -1 -1 -1 -1 -1");
        heap.make(2, 0, false);
        due.is(30, "the last cell", heap.free() + " " + fits(heap), "15+1 15 -1 -1 -1 -1 -1 -1");
        heap.enter();
        heap.make(0, 0, false);
        due.is(30, "none", heap.free() + fits(heap), "-1 -1 -1 -1 -1 -1 -1");
    }

    private static void rangesSideBySide() {
        due.sentence("a RANGE is as many of them side by side as can be");
        Heapkeep heap = holes(16, 0, 1, -2, -3, 1, -1, 1);
        due.is(29, "two that went side by side, and one at the end", heap.free() + " " + heap.house(6), "1+5 7+1 9+7 7");
    }

    private static void firstRange() {
        due.sentence("0 FIRST, 5 COLOURS, 6 COUNTS: at the beginning of the first RANGE that is long enough.");
        for (int keeper : new int[] {0, 5, 6}) {
            Heapkeep heap = holes(32, keeper, -2, 1, -4, 1, -3, 1);
            due.is(29, "ranges by keeper " + keeper, heap.free(), "0+2 3+4 8+3 12+20");
            due.is(30, "exactly long enough, or one more", fits(heap), "0 0 3 3 12 12 12");
            heap.enter();
            due.is(3, "four cells", heap.make(0, 3, false) + " " + heap.free(), "6 0+2 8+3 12+20");
            due.is(3, "one cell", heap.make(1, 0, false) + " " + heap.free(), "7 1+1 8+3 12+20");
        }
    }

    private static void bestRange() {
        due.sentence("1 BEST: of the shortest RANGE that is long enough (of several the first one).");
        Heapkeep heap = holes(32, 1, -4, 1, -2, 1, -3, 1);
        due.is(29, "ranges", heap.free(), "0+4 5+2 8+3 12+20");
        due.is(30, "the shortest, not the first one", fits(heap), "5 5 8 0 12 12 12");
        heap.enter();
        heap.make(0, 2, false);
        due.is(30, "then another one", heap.free() + " " + fits(heap), "0+4 5+2 12+20 5 5 0 0 12 12 12");
    }

    private static void bestOfSeveral() {
        due.sentence("(of several the first one)");
        for (int size : new int[] {16, 127, 128}) {
            Heapkeep whole = holes(size, 1);
            due.is(30, "all cells are one range", whole.free() + " " + fits(whole), "0+" + size + " 0 0 0 0 0 0 0");
        }
        Heapkeep heap = holes(20, 1, -4, 1, -2, 1, -2, 1, -4, 1);
        due.is(29, "ranges", heap.free(), "0+4 5+2 8+2 11+4 16+4");
        due.is(30, "the first of each length", fits(heap), "5 5 0 0 -1 -1 -1");
    }

    private static void halfFull() {
        due.sentence("two halves of SIZE / 2 CELLS each, from 0 on; behind the last OBJECT of the HALF that is in use (0 at first), or at its beginning");
        Heapkeep heap = new Heapkeep();
        heap.size(16);
        heap.keeper(2);
        heap.make(0, 6, false);
        due.is(30, "one is left", fits(heap), "7 -1 -1 -1 -1 -1 -1");
        heap.make(1, 0, false);
        due.is(30, "none is left, though 8 are free", heap.house(5) + " " + fits(heap), "8 -1 -1 -1 -1 -1 -1 -1");
        due.fails(3, "no room", Due.STATE, () -> heap.make(2, 0, false));
        due.is(3, "the half is as it was", heap.house(10) + " " + heap.row() + " " + collections(heap), "0 0:0 7:1 0 whole 0 small 0 went");
        heap.local(1, -1);
        heap.make(1, 0, false);
        due.is(3, "the other half, exactly full", heap.house(10) + " " + heap.row() + " " + heap.fits(1) + " " + collections(heap),
                "1 8:0 15:2 -1 1 whole 0 small 1 went");
    }

    private static void halfEmpty() {
        due.sentence("is copied to the other half, which is in use then, from its beginning on");
        Heapkeep heap = new Heapkeep();
        heap.keeper(2);
        due.is(30, "the half 0", heap.house(10) + " " + fits(heap), "0 0 0 0 0 0 0 0");
        heap.collect(false);
        due.is(30, "the half 1", heap.house(10) + " " + fits(heap), "1 32 32 32 32 32 32 32");
        heap.collect(true);
        due.is(30, "the half 0 again", heap.house(10) + " " + heap.fits(7), "0 0");
    }

    private static void halfOfOddSize() {
        due.sentence("two halves of SIZE / 2 CELLS each, from 0 on");
        Heapkeep heap = new Heapkeep();
        heap.size(17);
        heap.keeper(2);
        heap.make(0, 6, false);
        due.is(30, "8 cells in the half 0", heap.fits(1) + " " + heap.fits(2), "7 -1");
        heap.collect(false);
        due.is(30, "8 cells in the half 1", heap.row() + " " + heap.fits(1) + " " + heap.fits(2), "8:0 15 -1");
        heap.make(1, 0, false);
        due.is(30, "the last cell is of no half", heap.free() + " " + heap.fits(1), "0+8 16+1 -1");
    }

    private static void slideFull() {
        due.sentence("3 SLIDE: behind the last OBJECT.");
        Heapkeep heap = new Heapkeep();
        heap.size(16);
        heap.keeper(3);
        due.is(30, "none is there", fits(heap), "0 0 0 0 0 0 0");
        heap.make(0, 6, false);
        heap.make(1, 1, false);
        due.is(30, "seven are left", fits(heap), "9 9 9 9 9 9 9");
        heap.make(2, 0, false);
        due.is(30, "six are left", fits(heap), "10 10 10 10 10 10 -1");
        heap.make(3, 5, false);
        due.is(30, "none is left", heap.free() + fits(heap), "-1 -1 -1 -1 -1 -1 -1");
        due.is(3, "nothing was collected", collections(heap), "0 whole 0 small 0 went");
        heap.local(0, -1);
        heap.make(0, 6, false);
        due.is(3, "exactly full again", heap.row() + heap.free() + " " + heap.counted(9), "0:1 2:2 3:3 9:4 3");
    }

    // ---- the young room

    private static void youngFull() {
        due.sentence("the young room are the first SIZE / 4 CELLS: behind the last OBJECT in it");
        Heapkeep heap = new Heapkeep();
        heap.size(16);
        heap.keeper(4);
        due.is(30, "all four, or behind it", fits(heap), "0 0 0 0 4 4 4");
        heap.make(0, 2, false);
        due.is(30, "one is left", fits(heap), "3 4 4 4 4 4 4");
        heap.make(1, 0, false);
        due.is(30, "none is left", fits(heap), "4 4 4 4 4 4 4");
        due.is(14, "nothing was collected", collections(heap), "0 whole 0 small 0 went");
        due.sentence("with the KEEPER 4, if it has no room in the young room, a SMALL collection goes ahead");
        heap.make(2, 0, false);
        due.is(3, "a small one, and behind the young room", collections(heap) + " " + heap.row(), "0 whole 1 small 0 went 0:0 3:1 4:2");
        Heapkeep exact = new Heapkeep();
        exact.size(16);
        exact.keeper(4);
        exact.make(0, 3, false);
        due.is(3, "exactly full with one", exact.row() + " " + exact.ofObject(0, 10) + " " + collections(exact), "0:0 1 0 whole 0 small 0 went");
        exact.make(0, 0, false);
        due.is(3, "it is held still while one collects", exact.row() + " " + collections(exact), "0:0 4:1 0 whole 1 small 0 went");
    }

    /** Five cells never have room in four. */
    private static void youngTooSmall() {
        due.sentence("without room there at the beginning of the first RANGE behind the young room that is long enough");
        Heapkeep heap = new Heapkeep();
        heap.size(16);
        heap.keeper(4);
        heap.make(0, 4, false);
        due.is(3, "old, behind a small one", heap.row() + " " + heap.ofObject(0, 10) + " " + collections(heap), "4:0 0 0 whole 1 small 0 went");
        heap.make(1, 6, false);
        due.is(3, "exactly to the last cell", heap.free() + " " + collections(heap), "0+4 0 whole 2 small 0 went");
        due.fails(3, "no room, though four are free", Due.STATE, () -> heap.make(2, 4, false));
        due.is(3, "what was counted is as it was", collections(heap), "0 whole 2 small 0 went");
        due.is(3, "four have room", heap.make(2, 3, false) + " " + heap.free() + collections(heap), "2 0 whole 2 small 0 went");
    }

    /** A range of two young and two old cells: 2 to 5. */
    private static void youngCut() {
        due.sentence("(a RANGE is cut where the young room ends)");
        Heapkeep heap = new Heapkeep();
        heap.size(16);
        heap.make(0, 1, false);
        heap.make(1, 6, false);
        heap.keeper(4);
        heap.local(0, -1);
        heap.collect(false);
        heap.make(0, 1, false);
        due.sentence("(RANGES are not cut here)");
        due.is(29, "free", heap.free(), "2+4 13+3");
        due.sentence("(a RANGE is cut where the young room ends)");
        due.is(30, "two in it, three not, four nowhere", fits(heap), "2 2 13 -1 -1 -1 -1");
        heap.make(2, 1, false);
        due.is(30, "the old part begins where the young room ends", heap.free() + " " + fits(heap), "4+2 13+3 4 4 13 -1 -1 -1 -1");
        due.is(30, "no collection", collections(heap), "1 whole 0 small 1 went");
    }

    private static void youngLastCell() {
        due.sentence("An OBJECT in the young room is YOUNG, others are OLD; AGE of one is 0 at first.");
        Heapkeep heap = new Heapkeep();
        heap.size(19);
        heap.keeper(4);
        heap.make(0, 2, false);
        heap.make(1, 0, false);
        heap.make(2, 0, false);
        due.is(24, "the cells 3 and 4", heap.ofObject(1, 2) + ":" + heap.ofObject(1, 10) + " " + heap.ofObject(2, 2) + ":"
                + heap.ofObject(2, 10), "3:1 4:0");
        due.is(24, "ages, behind a small one", heap.ofObject(0, 3) + " " + heap.ofObject(1, 3) + " " + heap.ofObject(2, 3), "1 1 0");
        heap.keeper(3);
        due.is(24, "with another keeper", heap.ofObject(0, 10) + " " + heap.ofObject(1, 10), "0 0");
    }

    private static void youngThenWhole() {
        due.sentence("If there is no room, a WHOLE collection is made; if there is none still, a HARD one");
        Heapkeep heap = new Heapkeep();
        heap.size(16);
        heap.make(0, 6, false);
        heap.refer(1, 2, 0);
        heap.make(2, 2, false);
        heap.local(0, -1);
        heap.local(2, -1);
        heap.keeper(4);
        due.is(12, "old", heap.row() + " " + heap.free(), "4:0 11:1 13:2 0+4");
        heap.make(2, 2, false);
        due.is(3, "room in the young room", collections(heap), "0 whole 0 small 0 went");
        heap.make(3, 2, false);
        due.is(3, "a small one in vain, a whole one", collections(heap) + " " + heap.row(), "1 whole 1 small 1 went 0:3 4:0 11:1 13:4");
        heap.make(0, 1, false);
        due.is(3, "a small one in vain, a whole one in vain, a hard one", collections(heap) + " " + heap.waiting() + " " + heap.row(),
                "3 whole 2 small 2 went 1; 0:3 4:5 11:1 13:4");
    }

    // ---- when one collects

    private static void makeWithoutCollection() {
        due.sentence("The KEEPER (0 at first) tells where a new OBJECT lies, if there is room");
        for (int keeper : new int[] {0, 1, 3, 5, 6}) {
            Heapkeep heap = new Heapkeep();
            heap.size(16);
            heap.keeper(keeper);
            heap.make(0, 6, false);
            heap.make(1, 6, false);
            heap.make(2, 0, false);
            heap.make(3, 0, false);
            due.is(3, "exactly full, keeper " + keeper, heap.free() + collections(heap) + " " + heap.row(),
                    "0 whole 0 small 0 went 0:0 7:1 14:2 15:3");
        }
    }

    private static void makeWithWhole() {
        due.sentence("If there is no room, a WHOLE collection is made");
        int[] keepers = {0, 1, 3, 5};
        String[] rows = {"0:0 1:1 8:2 9:5 15:4", "0:0 1:1 8:2 9:5 15:4", "0:0 1:1 8:2 9:4 10:5", "0:0 1:1 8:2 9:5 15:4"};
        for (int i = 0; i < keepers.length; i++) {
            for (int cells = 1; cells <= 7; cells++) {
                Heapkeep heap = new Heapkeep();
                heap.size(16);
                heap.keeper(keepers[i]);
                heap.make(0, 0, false);
                heap.make(1, 6, false);
                heap.make(2, 0, false);
                heap.make(3, 5, false);
                heap.make(3, 0, false);
                due.is(3, "full, and nothing was collected", heap.free() + collections(heap), "0 whole 0 small 0 went");
                int fields = cells - 1;
                if (cells <= 6) {
                    heap.make(0, fields, false);
                    due.is(3, "6 become free by keeper " + keepers[i], heap.row() + " " + heap.house(5) + " " + collections(heap),
                            rows[i] + " " + (6 - cells) + " 1 whole 0 small 1 went");
                } else {
                    due.fails(3, "7 are too many", Due.STATE, () -> heap.make(0, fields, false));
                }
            }
        }
    }

    private static void makeWithHard() {
        due.sentence("if there is none still, a HARD one");
        for (int keeper : new int[] {0, 1, 2, 3, 5, 6}) {
            Heapkeep heap = new Heapkeep();
            heap.size(keeper == 2 ? 32 : 16);
            heap.keeper(keeper);
            heap.make(0, 6, false);
            heap.refer(1, 2, 0);
            heap.local(0, -1);
            heap.make(2, 6, false);
            due.is(3, "full, and nothing was collected", heap.fits(1) + " " + collections(heap), "-1 0 whole 0 small 0 went");
            heap.make(3, 6, false);
            due.is(3, "exactly full again by keeper " + keeper, heap.row() + " " + heap.fits(1),
                    keeper == 2 || keeper == 3 ? "0:1 2:2 9:3 -1" : "0:3 7:1 9:2 -1");
            due.is(3, "two collections", heap.waiting() + " " + collections(heap), "1; 2 whole 0 small 1 went");
        }
    }

    // ---- another keeper

    private static void keeperEmpty() {
        due.sentence("That is the KEEPER from now on (also if it is the same one).");
        Heapkeep heap = new Heapkeep();
        for (int before = 0; before <= 6; before++) {
            for (int kind = 0; kind <= 6; kind++) {
                heap.keeper(before);
                due.is(12, "none is there", heap.keeper(kind) + " " + heap.house(3) + heap.row(), before + " " + kind);
            }
        }
    }

    private static void keeperFull() {
        due.sentence("it can not be done if they have no room there (with the KEEPER 2: in the half 0)");
        for (int kind = 0; kind <= 6; kind++) {
            int most = kind == 2 ? 8 : kind == 4 ? 12 : 16;
            Heapkeep heap = new Heapkeep();
            heap.size(16);
            heap.make(0, 6, false);
            for (int cells = 7; cells < most; cells++) {
                heap.enter();
                heap.make(0, Math.min(most - cells, 5) - 1, false);
                cells += Math.min(most - cells, 5) - 1;
            }
            due.is(12, "room for exactly so many", heap.keeper(kind) + " " + heap.house(3), "0 " + kind);
            due.is(30, "exactly full", heap.fits(5) + " " + heap.house(5), "-1 " + (16 - most));
            due.is(12, "and the same one again", heap.keeper(kind), kind);
        }
        Heapkeep one = new Heapkeep();
        one.size(16);
        one.make(0, 6, false);
        one.make(1, 0, false);
        one.make(2, 0, false);
        due.is(12, "nine in a half of eight", one.keeper(2) + " " + one.house(3), "-9 0");
        one.make(2, 3, false);
        one.collect(false);
        due.is(12, "twelve behind the young room", one.keeper(4) + " " + one.keeper(0), "0 4");
        one.make(3, 0, false);
        due.is(12, "thirteen in twelve", one.keeper(4) + " " + one.house(3), "-9 0");
    }

    private static void keeperOrder() {
        due.sentence("all OBJECTS are laid one behind the other by rising ADDRESSES from the CELL 0 on (with the KEEPER 4 from the end of the young room on; so they are OLD)");
        for (int kind = 0; kind <= 6; kind++) {
            Heapkeep heap = new Heapkeep();
            heap.make(0, 2, false);
            heap.make(1, 0, false);
            heap.local(0, -1);
            heap.collect(false);
            heap.make(0, 0, false);
            heap.make(2, 3, false);
            due.is(12, "with ranges between", heap.row(), "0:2 3:1 4:3");
            heap.keeper(kind);
            due.is(12, "by addresses, not by names", heap.row(), kind == 4 ? "16:2 17:1 18:3" : "0:2 1:1 2:3");
            due.is(12, "old, and not moved by a collection", heap.ofObject(2, 10) + " " + heap.counted(9), "0 0");
        }
    }

    private static void keeperAges() {
        due.sentence("AGES are 0, the HALF is 0, a CYCLE is broken off");
        for (int kind = 0; kind <= 6; kind++) {
            Heapkeep heap = new Heapkeep();
            heap.keeper(4);
            heap.make(0, 0, false);
            heap.small();
            heap.make(1, 0, false);
            heap.small();
            due.is(24, "ages", heap.ofObject(0, 3) + " " + heap.ofObject(1, 3), "2 1");
            heap.keeper(kind);
            due.is(24, "no ages", heap.ofObject(0, 3) + " " + heap.ofObject(1, 3), "0 0");
        }
    }

    private static void keeperHalf() {
        due.sentence("AGES are 0, the HALF is 0, a CYCLE is broken off");
        for (int kind = 0; kind <= 6; kind++) {
            Heapkeep heap = new Heapkeep();
            heap.keeper(2);
            heap.make(0, 0, false);
            heap.collect(false);
            due.is(37, "the half 1", heap.house(10) + " " + heap.row(), "1 32:0");
            heap.keeper(kind);
            due.is(37, "the half 0", heap.house(10) + " " + heap.row(), kind == 4 ? "0 16:0" : "0 0:0");
        }
    }

    private static void keeperCycle() {
        due.sentence("AGES are 0, the HALF is 0, a CYCLE is broken off");
        for (int kind = 0; kind <= 6; kind++) {
            Heapkeep heap = new Heapkeep();
            heap.keeper(5);
            heap.barrier(2, true);
            heap.make(0, 0, false);
            heap.begin();
            due.is(37, "a cycle that is guarded", heap.house(8) + "" + heap.house(9) + heap.grey(), "110");
            heap.keeper(kind);
            due.is(37, "none", heap.house(8) + "" + heap.house(9) + heap.grey() + heap.ofObject(0, 5) + heap.step(1), "00-1-9");
            due.is(37, "barriers stay", heap.house(11) + " " + heap.house(12), "2 1");
        }
    }

    private static void keeperCounts() {
        due.sentence("With the KEEPER 6 section 6 holds from then on (also behind this call itself: laid first, then).");
        Heapkeep heap = new Heapkeep();
        heap.make(0, 2, false);
        heap.make(1, 0, false);
        heap.store(0, 0, 1);
        heap.make(1, 0, false);
        heap.local(0, -1);
        due.is(12, "nothing goes ahead", heap.row(), "0:0 3:1 4:2");
        due.is(12, "a chain goes, and what is left stays where it was laid", heap.keeper(6) + " " + heap.row() + " " + heap.counted(0), "0 4:2 2");
        due.is(38, "without a collection", heap.counted(1) + heap.counted(6) + heap.counted(9), 0);
        Heapkeep all = new Heapkeep();
        all.make(0, 6, false);
        all.local(0, -1);
        due.is(12, "all go", all.keeper(6) + all.row() + " " + all.house(0), "0 0");
    }
}
