/** Sections 3, 4 and 6 at their edges: whole and small collections, and counts. */
public final class EdgeCollectTests {
    private static final Due due = new Due("EdgeCollectTests");

    public static void main(String[] args) {
        wholeOfNone();
        wholeOfAll();
        wholeOfNoneToGo();
        costsAlone();
        costOfHard();
        dearest();
        seenByRoots();
        seenByLastField();
        unseenIsNotCleared();
        lastIsNotClearedWhileSeen();
        keptByWishIsNotCleared();
        clearedByNames();
        clearedBehindOthers();
        clearedInTwoTurns();
        queueFull();
        wishesByNames();
        wishesBehindOthers();
        wishesOnce();
        wishesNotOfSeen();
        wishesOfAWish();
        keptBySoftOfWish();
        hardOfSoftChain();
        copyRoots();
        copyBySoft();
        copyPending();
        copyEmptied();
        slide();
        slideNothing();
        slideYoungAlone();
        moveNothing();
        breaksCycle();
        smallOfNone();
        smallOfAll();
        smallKeepsRoots();
        smallKeepsByOld();
        smallKeepsWishes();
        smallKeepsReferences();
        smallKeepsReferents();
        smallKeepsByFields();
        smallClearsNothing();
        smallAges();
        smallFirstRange();
        smallCutRange();
        smallByAddresses();
        smallWithoutRange();
        smallCosts();
        remembered();
        countOfMany();
        countOfWaiting();
        countsByCalls();
        countsByWaiting();
        countsOfChain();
        countsOfRing();
        countsOfReferences();
        due.end();
    }

    private static String collections(Heapkeep heap) {
        return heap.counted(1) + " whole " + heap.counted(2) + " small " + heap.counted(0) + " went";
    }

    private static Heapkeep by(int keeper) {
        Heapkeep heap = new Heapkeep();
        heap.keeper(keeper);
        return heap;
    }

    /** Two that hold one another: n 2, f 3, 5 cells. */
    private static Heapkeep ring(int keeper) {
        Heapkeep heap = by(keeper);
        heap.make(0, 2, false);
        heap.make(1, 1, false);
        heap.store(0, 0, 1);
        heap.store(0, 1, 0);
        heap.store(1, 0, 0);
        return heap;
    }

    // ---- whole collections: costs

    private static void wholeOfNone() {
        due.sentence("COST: with n OBJECTS ahead, which have f FIELDS together, and m that are KEPT, with g FIELDS and c CELLS together");
        for (int keeper = 0; keeper <= 6; keeper++) {
            Heapkeep heap = by(keeper);
            for (int kind = 0; kind <= 6; kind++) {
                due.is(32, "cost of none", heap.cost(kind), 0);
            }
            due.is(13, "none goes", heap.collect(false) + " " + heap.collect(true), "0 0");
            due.is(38, "counted", collections(heap) + " " + heap.counted(6) + " " + heap.counted(7) + " " + heap.counted(9),
                    "2 whole 0 small 0 went 0 0 0");
            due.is(28, "none is there", heap.row() + heap.waiting(), ";");
        }
    }

    private static void wholeOfAll() {
        due.sentence("KEEPERS 0, 1, 4 and 5: m + g + n; 2: c + g; 3: m + g + n + c; 6: 2 * (n + f) + n - m.");
        int[] costs = {2, 2, 0, 2, 2, 2, 12};
        for (int keeper = 0; keeper <= 6; keeper++) {
            Heapkeep heap = ring(keeper);
            heap.local(0, -1);
            heap.local(1, -1);
            for (int kind = 0; kind <= 6; kind++) {
                due.is(32, "cost where all go", heap.cost(kind), costs[kind]);
            }
            due.is(31, "all would go", heap.would(false) + "/" + heap.would(true), "0 1/0 1");
            due.is(13, "all go", heap.collect(false) + " " + heap.row() + heap.free(), "2 0+64");
            due.is(38, "cost", heap.counted(6) + " " + heap.counted(7), costs[keeper] + " " + costs[keeper]);
        }
    }

    private static void wholeOfNoneToGo() {
        due.sentence("KEEPERS 0, 1, 4 and 5: m + g + n; 2: c + g; 3: m + g + n + c; 6: 2 * (n + f) + n - m.");
        int[] costs = {2 + 3 + 2, 7, 5 + 3, 2 + 3 + 2 + 5, 7, 7, 2 * (2 + 3)};
        for (int keeper = 0; keeper <= 6; keeper++) {
            Heapkeep heap = ring(keeper);
            for (int kind = 0; kind <= 6; kind++) {
                due.is(32, "cost where none goes", heap.cost(kind), costs[kind]);
            }
            due.is(31, "none would go", heap.would(false) + heap.would(true), "");
            due.is(13, "none goes", heap.collect(false) + " " + heap.counted(6), "0 " + costs[keeper]);
        }
    }

    /** One object of one cell, then one reference of two. */
    private static void costsAlone() {
        due.sentence("Returns COST of a WHOLE collection that is not HARD now, reckoned as with that KEEPER.");
        int[] ofOne = {2, 2, 1, 3, 2, 2, 2};
        int[] ofTwo = {4, 4, 3, 7, 4, 4, 4};
        Heapkeep heap = new Heapkeep();
        heap.make(0, 0, false);
        for (int kind = 0; kind <= 6; kind++) {
            due.is(32, "cost of one", heap.cost(kind), ofOne[kind]);
        }
        heap.refer(1, 1, 0);
        for (int kind = 0; kind <= 6; kind++) {
            due.is(32, "cost with a reference", heap.cost(kind), ofTwo[kind]);
        }
    }

    private static void costOfHard() {
        due.sentence("Returns COST of a WHOLE collection that is not HARD now, reckoned as with that KEEPER.");
        Heapkeep heap = new Heapkeep();
        heap.make(0, 3, false);
        heap.refer(1, 2, 0);
        heap.local(0, -1);
        due.is(32, "what is soft is kept there", heap.cost(0) + " " + heap.cost(3), (2 + 3 + 2) + " " + (2 + 3 + 2 + 6));
        heap.collect(true);
        due.is(38, "a hard one does not keep it", heap.counted(6), 1 + 0 + 2);
    }

    private static void dearest() {
        due.sentence("6 all COSTS and works together, 7 the greatest one");
        Heapkeep heap = ring(0);
        heap.collect(false);
        due.is(38, "the first one", heap.counted(6) + " " + heap.counted(7), "7 7");
        heap.collect(false);
        due.is(38, "one as great", heap.counted(6) + " " + heap.counted(7), "14 7");
        heap.local(1, -1);
        heap.local(0, -1);
        heap.collect(false);
        due.is(38, "a smaller one", heap.counted(6) + " " + heap.counted(7), "16 7");
        heap.keeper(5);
        heap.begin();
        heap.step(60);
        due.is(38, "a work", heap.counted(6) + " " + heap.counted(7), "17 7");
        heap.make(0, 6, false);
        heap.begin();
        heap.step(60);
        due.is(38, "a greater work", heap.counted(6) + " " + heap.counted(7), 17 + 9 + " 9");
        heap.keeper(4);
        heap.make(1, 6, false);
        heap.make(2, 1, false);
        heap.small();
        due.is(38, "a small one's cost", heap.counted(6) + " " + heap.counted(7), 26 + 9 + " 9");
    }

    // ---- what is seen

    private static void seenByRoots() {
        due.sentence("ROOTS, in their order: LOCALS by frames, in a frame by numbers; then the QUEUE; then PENDING.");
        Heapkeep heap = new Heapkeep();
        heap.make(0, 0, false);
        heap.refer(1, 1, 0);
        heap.make(0, 1, true);
        heap.make(2, 0, false);
        heap.store(2, 0, 3);
        heap.local(2, -1);
        heap.local(0, -1);
        heap.make(3, 0, false);
        heap.enter();
        heap.enter();
        due.is(13, "one goes", heap.collect(false) + " " + heap.waiting(), "1 1;2");
        heap.global(1, -1);
        due.is(13, "a local below, the queue, one pending and what it holds stay", heap.collect(false) + " " + heap.row(),
                "0 1:1 3:2 5:3 6:4");
        heap.poll();
        due.is(13, "not without the queue", heap.collect(false) + " " + heap.row(), "1 3:2 5:3 6:4");
        heap.finish(-1);
        due.is(13, "not without pending", heap.collect(false) + " " + heap.row(), "2 6:4");
        heap.global(3, -1);
        due.is(13, "not without the local", heap.collect(false) + heap.row(), "1");
    }

    private static void seenByLastField() {
        due.sentence("(a) SEEN are all ROOTS, and all that they lead to.");
        Heapkeep heap = new Heapkeep();
        heap.make(3, 6, false);
        heap.make(0, 6, false);
        heap.store(0, 5, 1);
        heap.make(1, 0, false);
        heap.store(1, 5, 2);
        heap.local(0, -1);
        heap.local(1, -1);
        for (int frames = 2; frames <= 5; frames++) {
            heap.enter();
        }
        due.is(13, "by the last field of what the last field holds", heap.collect(true) + " " + heap.house(0), "0 3");
    }

    // ---- references

    private static void unseenIsNotCleared() {
        due.sentence("(b) Each WEAK or SOFT REFERENCE that is SEEN and whose REFERENT is not is CLEARED");
        for (int kind = 1; kind <= 3; kind++) {
            Heapkeep heap = new Heapkeep();
            heap.make(0, 0, false);
            heap.refer(1, kind, 0);
            heap.local(0, -1);
            heap.local(1, -1);
            due.is(13, "both go, nothing is cleared", heap.collect(true) + " " + heap.counted(8) + " " + heap.waiting(), "2 0 ;");
            Heapkeep seen = new Heapkeep();
            seen.make(0, 0, false);
            seen.refer(1, kind, 0);
            due.is(13, "both are seen, nothing is cleared", seen.collect(true) + " " + seen.counted(8) + " " + seen.ofObject(1, 9), "0 0 0");
        }
    }

    private static void lastIsNotClearedWhileSeen() {
        due.sentence("references to objects hold them softly, weakly, or to the last");
        Heapkeep heap = new Heapkeep();
        heap.make(0, 0, true);
        heap.refer(1, 1, 0);
        heap.refer(2, 2, 0);
        heap.refer(3, 3, 0);
        heap.local(0, -1);
        heap.collect(true);
        due.is(13, "pending: the weak and the soft one are cleared, the last one is not", heap.waiting() + " " + heap.ofObject(1, 9)
                + " " + heap.ofObject(2, 9) + " " + heap.ofObject(3, 9), "1 2;0 -1 -1 0");
        heap.finish(-1);
        heap.collect(true);
        due.is(13, "once it goes the last one is cleared", heap.waiting() + " " + heap.ofObject(3, 9), "1 2 3; -1");
    }

    private static void keptByWishIsNotCleared() {
        due.sentence("(e) Each REFERENCE that is KEPT and whose REFERENT is not is CLEARED");
        for (int kind = 1; kind <= 3; kind++) {
            Heapkeep heap = new Heapkeep();
            heap.make(0, 2, true);
            heap.refer(1, kind, 0);
            heap.store(0, 0, 1);
            heap.make(2, 0, false);
            heap.refer(1, kind, 2);
            heap.store(0, 1, 3);
            for (int slot = 0; slot < 3; slot++) {
                heap.local(slot, -1);
            }
            due.is(13, "what none else holds goes", heap.collect(true), 1);
            due.is(13, "of the kind " + kind + ": not of what is kept, but of what goes", heap.ofObject(1, 9) + " " + heap.ofObject(3, 9)
                    + " " + heap.waiting(), "0 -1 3;0");
        }
    }

    private static void clearedByNames() {
        due.sentence("these come to the QUEUE by rising NAMES");
        Heapkeep heap = new Heapkeep();
        heap.make(0, 0, false);
        heap.refer(3, 1, 0);
        heap.refer(2, 2, 0);
        heap.refer(1, 1, 0);
        heap.local(0, -1);
        due.is(13, "not by locals", heap.collect(true) + " " + heap.waiting(), "1 1 2 3;");
        Heapkeep last = new Heapkeep();
        last.make(0, 0, false);
        last.refer(3, 3, 0);
        last.refer(2, 3, 0);
        last.refer(1, 3, 0);
        last.local(0, -1);
        due.is(13, "last ones not by locals", last.collect(false) + " " + last.waiting(), "1 1 2 3;");
    }

    private static void clearedBehindOthers() {
        due.sentence("The QUEUE is a row of REFERENCES that were CLEARED");
        Heapkeep heap = new Heapkeep();
        heap.make(0, 0, false);
        heap.refer(1, 1, 0);
        heap.make(2, 0, false);
        heap.refer(3, 1, 2);
        heap.local(2, -1);
        heap.collect(false);
        heap.local(0, -1);
        heap.collect(false);
        due.is(13, "a smaller name comes behind", heap.waiting(), "3 1;");
        due.is(19, "the first one first", heap.poll() + " " + heap.poll() + " " + heap.poll(), "3 1 -1");
    }

    private static void clearedInTwoTurns() {
        due.sentence("these come to the QUEUE by rising NAMES (they are KEPT already)");
        Heapkeep heap = new Heapkeep();
        heap.make(0, 0, false);
        heap.refer(1, 3, 0);
        heap.refer(2, 1, 0);
        heap.refer(3, 3, 0);
        heap.local(0, -1);
        heap.collect(false);
        due.is(13, "the weak one of (b) ahead of those of (e)", heap.waiting(), "2 1 3;");
    }

    /** With 63 references of two cells no more than one object of one cell has room beside. */
    private static void queueFull() {
        due.sentence("The QUEUE is a row of REFERENCES that were CLEARED");
        Heapkeep heap = new Heapkeep();
        heap.size(128);
        StringBuilder names = new StringBuilder();
        int next = 0;
        for (int turn = 0; turn < 21; turn++) {
            heap.make(0, 0, false);
            for (int slot = 1; slot <= 3; slot++) {
                heap.refer(slot, slot, next);
                names.append(names.length() == 0 ? "" : " ").append(next + slot);
            }
            heap.local(0, -1);
            heap.collect(true);
            for (int slot = 1; slot <= 3; slot++) {
                heap.local(slot, -1);
            }
            next += 4;
        }
        due.is(33, "63 in the queue", heap.waiting(), names + ";");
        due.is(37, "objects and free cells", heap.house(0) + " " + heap.house(5) + " " + heap.counted(8), "63 2 63");
        due.is(13, "all stay", heap.collect(true) + " " + heap.isSound(), "0 true");
        for (int name = 1; name < next; name++) {
            if (name % 4 != 0) {
                due.is(19, "one after the other", heap.poll(), name);
            }
        }
        due.is(19, "none is left", heap.poll() + " " + heap.waiting() + " " + heap.collect(false) + " " + heap.house(0), "-1 ; 63 0");
    }

    // ---- wishes

    private static void wishesByNames() {
        due.sentence("(c) OBJECTS with a last WISH that are not SEEN and not PENDING come behind PENDING, by rising NAMES.");
        Heapkeep heap = new Heapkeep();
        for (int slot = 3; slot >= 0; slot--) {
            heap.make(slot, 0, true);
        }
        for (int slot = 0; slot < 4; slot++) {
            heap.local(slot, -1);
        }
        due.is(13, "not by locals", heap.collect(false) + " " + heap.waiting(), "0 ;0 1 2 3");
    }

    private static void wishesBehindOthers() {
        due.sentence("(c) OBJECTS with a last WISH that are not SEEN and not PENDING come behind PENDING, by rising NAMES.");
        Heapkeep heap = new Heapkeep();
        heap.make(0, 0, true);
        heap.make(1, 0, true);
        heap.local(1, -1);
        heap.collect(false);
        heap.local(0, -1);
        heap.collect(false);
        due.is(13, "a smaller name comes behind", heap.waiting(), ";1 0");
        due.is(18, "the first one first", heap.finish(-1) + " " + heap.finish(-1) + " " + heap.finish(-1), "1 0 -1");
    }

    private static void wishesOnce() {
        due.sentence("objects with a last wish are brought back once");
        Heapkeep heap = new Heapkeep();
        heap.make(0, 0, true);
        heap.local(0, -1);
        due.is(13, "pending", heap.collect(true) + heap.waiting(), "0;0");
        due.is(13, "not twice", heap.collect(true) + heap.collect(false) + heap.waiting(), "0;0");
        due.is(18, "brought back", heap.finish(0) + heap.waiting() + heap.ofObject(0, 7), "0;0");
        heap.local(0, -1);
        due.is(13, "once", heap.collect(false) + heap.waiting(), "1;");
    }

    private static void wishesNotOfSeen() {
        due.sentence("(c) OBJECTS with a last WISH that are not SEEN and not PENDING come behind PENDING, by rising NAMES.");
        Heapkeep heap = new Heapkeep();
        heap.make(0, 1, true);
        heap.make(1, 0, true);
        heap.store(0, 0, 1);
        heap.local(1, -1);
        heap.make(1, 0, true);
        heap.refer(2, 2, 2);
        heap.local(1, -1);
        due.is(13, "held, or held softly", heap.collect(false) + heap.waiting(), "0;");
        due.is(13, "softly is not enough for a hard one", heap.collect(true) + heap.waiting(), "03;2");
    }

    private static void wishesOfAWish() {
        due.sentence("(d) KEPT are all ROOTS (as they are now), and all that they lead to.");
        Heapkeep heap = new Heapkeep();
        heap.make(0, 1, false);
        heap.make(1, 1, true);
        heap.store(1, 0, 0);
        heap.make(2, 0, true);
        heap.store(0, 0, 2);
        for (int slot = 0; slot < 3; slot++) {
            heap.local(slot, -1);
        }
        due.is(13, "both wishes, and what lies between", heap.collect(false) + heap.waiting() + heap.house(0), "0;1 23");
        heap.finish(-1);
        due.is(13, "what only the first one held goes", heap.collect(false) + heap.waiting() + " " + heap.house(0), "2;2 1");
    }

    private static void keptBySoftOfWish() {
        due.sentence("a SOFT REFERENCE leads to its REFERENT as if that were its FIELD, but not in a collection that is HARD");
        for (int hard = 0; hard <= 1; hard++) {
            Heapkeep heap = new Heapkeep();
            heap.make(0, 1, true);
            heap.make(1, 0, false);
            heap.refer(2, 2, 1);
            heap.store(0, 0, 2);
            for (int slot = 0; slot < 3; slot++) {
                heap.local(slot, -1);
            }
            due.is(13, "what a pending one holds softly", heap.collect(hard == 1) + heap.waiting() + heap.ofObject(2, 9),
                    hard == 1 ? "12;0-1" : "0;01");
        }
    }

    private static void hardOfSoftChain() {
        due.sentence("a SOFT REFERENCE leads to its REFERENT as if that were its FIELD, but not in a collection that is HARD");
        Heapkeep heap = new Heapkeep();
        heap.make(0, 0, false);
        heap.refer(0, 2, 0);
        heap.refer(0, 2, 1);
        due.is(24, "soft ones do not reach", heap.house(7) + " " + heap.ofObject(0, 6) + " " + heap.ofObject(1, 6), "1 0 0");
        due.is(13, "but they lead, one to the other", heap.collect(false) + heap.waiting(), "0;");
        due.is(31, "a hard one would take both", heap.would(true) + "/" + heap.would(false), "0 1/");
        due.is(13, "the first one alone is seen, and cleared", heap.collect(true) + heap.waiting() + heap.counted(8), "22;1");
    }

    // ---- what moves

    private static void copyRoots() {
        due.sentence("first ROOTS in their order, then what they lead to, and so on, by rows: OBJECT by OBJECT as they were copied, by their FIELDS");
        Heapkeep heap = by(2);
        heap.make(0, 0, false);
        heap.make(1, 2, true);
        heap.make(2, 1, false);
        heap.make(3, 0, false);
        heap.store(2, 0, 3);
        heap.store(1, 1, 2);
        heap.store(1, 0, 0);
        heap.refer(3, 1, 1);
        heap.make(2, 1, false);
        heap.enter();
        heap.make(1, 0, false);
        heap.make(0, 0, false);
        heap.global(1, -1);
        heap.global(0, -1);
        due.is(13, "none goes", heap.collect(false) + " " + heap.waiting(), "0 4;1");
        due.is(13, "frame 0: 5, 4; frame 1: 7, 6; pending: 1; then 0, 2; then 3", heap.row(),
                "32:5 34:4 36:7 37:6 38:1 41:0 42:2 44:3");
        due.is(38, "all were moved", heap.counted(9), 8);
        heap.global(3, -1);
        heap.collect(false);
        due.is(13, "the queue behind the locals", heap.row(), "0:5 2:7 3:6 4:4 6:1 9:0 10:2 12:3");
    }

    private static void copyBySoft() {
        due.sentence("a SOFT REFERENCE leads to its REFERENT as if that were its FIELD, but not in a collection that is HARD");
        Heapkeep heap = by(2);
        heap.make(0, 1, false);
        heap.make(1, 0, false);
        heap.refer(2, 2, 1);
        heap.make(1, 0, false);
        heap.store(0, 0, 3);
        heap.local(1, -1);
        heap.collect(false);
        due.is(13, "by rows", heap.row(), "32:0 34:2 36:3 37:1");
        due.is(13, "one goes", heap.collect(true) + " " + heap.row(), "1 0:0 2:2 4:3");
    }

    private static void copyPending() {
        due.sentence("first ROOTS in their order, then what they lead to");
        Heapkeep heap = by(2);
        heap.make(0, 1, false);
        heap.make(1, 0, false);
        heap.store(0, 0, 1);
        heap.make(2, 0, true);
        heap.refer(3, 1, 2);
        heap.local(1, -1);
        heap.local(2, -1);
        due.is(13, "cleared, and pending", heap.collect(false) + " " + heap.waiting(), "0 3;2");
        due.is(13, "what is pending now, ahead of what a local leads to", heap.row(), "32:0 34:3 36:2 37:1");
    }

    private static void copyEmptied() {
        due.sentence("is copied to the other half, which is in use then, from its beginning on, one behind the other");
        Heapkeep heap = by(2);
        heap.make(0, 6, false);
        heap.local(0, -1);
        due.is(13, "all go", heap.collect(false) + " " + heap.house(10) + " " + heap.free() + " " + heap.counted(9), "1 1 0+64 0");
        due.is(3, "the beginning of the half", heap.make(0, 0, false) + " " + heap.row(), "1 32:1");
    }

    private static void slide() {
        due.sentence("KEEPER 3: all slide down to the CELL 0, in the order of ADDRESSES.");
        Heapkeep heap = by(3);
        heap.make(0, 0, false);
        heap.make(1, 6, false);
        heap.make(2, 0, false);
        heap.make(3, 1, false);
        heap.local(0, -1);
        heap.collect(false);
        due.is(13, "by one cell, over its own cells", heap.row() + " " + heap.counted(9), "0:1 7:2 8:3 3");
        heap.local(2, -1);
        heap.collect(false);
        due.is(13, "what lies behind alone", heap.row() + " " + heap.counted(9), "0:1 7:3 4");
        heap.local(3, -1);
        heap.collect(false);
        due.is(13, "nothing lies behind", heap.row() + " " + heap.counted(9), "0:1 4");
    }

    private static void slideNothing() {
        due.sentence("9 OBJECTS that were moved by a collection ever (their ADDRESS is another one behind it; each time)");
        Heapkeep heap = by(3);
        heap.make(0, 3, false);
        heap.make(1, 0, false);
        heap.collect(false);
        heap.collect(true);
        due.is(38, "none was moved", heap.counted(9) + " " + heap.row(), "0 0:0 4:1");
        Heapkeep halves = by(2);
        halves.make(0, 3, false);
        halves.make(1, 0, false);
        for (int times = 1; times <= 3; times++) {
            halves.collect(false);
            due.is(38, "each time", halves.counted(9), 2 * times);
        }
    }

    private static void slideYoungAlone() {
        due.sentence("KEEPER 4: YOUNG ones slide down to the CELL 0 likewise.");
        Heapkeep heap = new Heapkeep();
        heap.make(0, 1, false);
        heap.make(1, 0, false);
        heap.keeper(4);
        heap.make(2, 4, false);
        heap.make(3, 0, false);
        heap.local(0, -1);
        heap.local(2, -1);
        heap.collect(false);
        due.is(13, "the old one stays behind a range", heap.row() + " " + heap.free(), "0:3 18:1 1+17 19+45");
        due.is(13, "one was moved, ages stay", heap.counted(9) + " " + heap.ofObject(3, 3), "1 0");
    }

    private static void moveNothing() {
        due.sentence("9 OBJECTS that were moved by a collection ever");
        for (int keeper : new int[] {0, 1, 5, 6}) {
            Heapkeep heap = ring(keeper);
            heap.make(2, 0, false);
            heap.local(0, -1);
            heap.local(1, -1);
            due.is(13, "what is left stays by keeper " + keeper, heap.collect(false) + " " + heap.row() + " " + heap.counted(9), "2 5:2 0");
        }
    }

    private static void breaksCycle() {
        due.sentence("(h) A CYCLE is broken off.");
        for (int hard = 0; hard <= 1; hard++) {
            Heapkeep heap = ring(5);
            heap.barrier(1, false);
            heap.begin();
            due.is(37, "a cycle", heap.house(8) + " " + heap.house(9) + " " + heap.grey(), "1 1 0 1");
            heap.collect(hard == 1);
            due.is(13, "none", heap.house(8) + " " + heap.house(9) + " " + heap.grey() + heap.ofObject(0, 5) + " " + heap.step(1), "0 0 -1 -9");
            due.is(38, "it did not come to its end", heap.counted(3), 0);
        }
        Heapkeep made = new Heapkeep();
        made.size(16);
        made.keeper(5);
        made.make(0, 6, false);
        made.make(0, 6, false);
        made.begin();
        made.make(0, 6, false);
        due.is(3, "by making, too", made.house(8) + " " + made.ofObject(2, 5) + " " + collections(made), "0 -1 1 whole 0 small 1 went");
    }

    // ---- small collections

    private static void smallOfNone() {
        due.sentence("A SMALL collection. It is LET: with the KEEPER 4 alone.");
        Heapkeep heap = by(4);
        due.is(14, "none goes", heap.small() + " " + collections(heap) + " " + heap.counted(6), "0 0 whole 1 small 0 went 0");
        heap.make(0, 0, false);
        heap.keeper(4);
        due.is(14, "none is young", heap.small() + " " + heap.ofObject(0, 3) + " " + heap.row() + " " + heap.counted(6), "0 0 16:0 0");
    }

    private static void smallOfAll() {
        due.sentence("The other YOUNG ones go.");
        Heapkeep heap = ring(4);
        heap.local(0, -1);
        heap.local(1, -1);
        due.is(14, "a ring goes", heap.small() + " " + heap.row() + heap.free() + " " + heap.counted(6), "2 0+64 0");
        heap.make(0, 2, false);
        heap.make(1, 0, false);
        heap.keeper(4);
        heap.local(0, -1);
        heap.local(1, -1);
        due.is(14, "old ones do not", heap.small() + " " + heap.row(), "0 16:2 19:3");
    }

    private static void smallKeepsRoots() {
        due.sentence("KEPT are YOUNG ones that are ROOTS");
        Heapkeep heap = by(4);
        heap.make(3, 0, false);
        heap.make(0, 0, true);
        heap.local(0, -1);
        heap.collect(false);
        for (int frames = 2; frames <= 5; frames++) {
            heap.enter();
        }
        due.is(14, "the last local of the frame 0, and a pending one", heap.small() + " " + heap.row(), "0 0:0 1:1");
        heap.finish(-1);
        due.is(14, "not once its wish was heard", heap.small() + " " + heap.row(), "1 16:0");
    }

    private static void smallKeepsByOld() {
        due.sentence("or that a FIELD of an OLD one holds");
        Heapkeep heap = new Heapkeep();
        heap.make(0, 6, false);
        heap.keeper(4);
        heap.make(1, 0, false);
        heap.store(0, 5, 1);
        heap.local(1, -1);
        heap.local(0, -1);
        due.is(34, "remembered, though it is not reached", heap.remembered() + " " + heap.house(7), "0 0");
        due.is(14, "the last field of what none reaches", heap.small() + " " + heap.row(), "0 0:1 16:0");
        heap.collect(false);
        due.is(14, "both go by a whole one", heap.row(), "");
    }

    private static void smallKeepsWishes() {
        due.sentence("or that have a last WISH");
        Heapkeep heap = by(4);
        heap.make(0, 0, true);
        heap.make(0, 0, false);
        heap.local(0, -1);
        due.is(14, "one goes", heap.small() + " " + heap.row() + " " + heap.waiting() + heap.ofObject(0, 7), "1 0:0 ;1");
    }

    private static void smallKeepsReferences() {
        due.sentence("or are REFERENCES, or REFERENTS of any that is there");
        for (int kind = 1; kind <= 3; kind++) {
            Heapkeep heap = by(4);
            heap.make(0, 0, false);
            heap.make(1, 0, false);
            heap.refer(1, kind, 0);
            heap.local(0, -1);
            heap.local(1, -1);
            due.is(14, "none reaches it, nor its referent", heap.small() + " " + heap.row() + " " + heap.ofObject(2, 9), "1 0:0 1:2 0");
        }
    }

    private static void smallKeepsReferents() {
        due.sentence("REFERENTS of any that is there");
        for (int kind = 1; kind <= 3; kind++) {
            Heapkeep heap = by(4);
            heap.make(0, 0, false);
            heap.make(1, 1, false);
            heap.refer(2, kind, 1);
            heap.store(1, 0, 0);
            for (int slot = 0; slot < 3; slot++) {
                heap.local(slot, -1);
            }
            heap.keeper(4);
            heap.make(0, 0, false);
            heap.enter();
            heap.make(0, 0, false);
            heap.refer(1, kind, 4);
            heap.keep();
            heap.leave();
            heap.global(0, -1);
            due.is(14, "a young referent of a young one", heap.small() + " " + heap.row(), "1 0:4 1:5 16:0 17:1 19:2");
            heap.small();
            due.is(14, "both are old", heap.row() + " " + heap.ofObject(4, 10), "16:0 17:1 19:2 21:4 22:5 0");
            due.is(14, "and stay", heap.small() + " " + heap.waiting(), "0 ;");
        }
        oldOfYoung();
    }

    /** The reference has room behind the young room, its referent of three cells has not. */
    private static void oldOfYoung() {
        for (int kind = 1; kind <= 3; kind++) {
            Heapkeep heap = new Heapkeep();
            heap.size(20);
            heap.make(0, 6, false);
            heap.make(1, 5, false);
            heap.keeper(4);
            heap.make(2, 2, false);
            heap.refer(3, kind, 2);
            heap.small();
            heap.small();
            heap.local(2, -1);
            heap.local(3, -1);
            heap.make(2, 0, false);
            heap.local(2, -1);
            due.is(14, "a young referent of an old one that none reaches", heap.small() + " " + heap.row(), "1 0:2 5:0 12:1 18:3");
            due.is(34, "which is not remembered", heap.remembered() + heap.ofObject(3, 10) + heap.ofObject(2, 10), "01");
        }
    }

    private static void smallKeepsByFields() {
        due.sentence("and all YOUNG ones that these lead to by FIELDS of YOUNG ones");
        Heapkeep heap = by(4);
        heap.make(0, 1, false);
        for (int name = 1; name < 5; name++) {
            heap.make(1, 1, false);
            heap.store(name - 1, 0, name);
        }
        heap.local(1, -1);
        heap.make(1, 0, false);
        heap.local(1, -1);
        due.is(14, "a chain of young ones", heap.small() + " " + heap.row(), "1 0:0 2:1 4:2 6:3 8:4");
        heap.load(1, 0, 0);
        heap.load(1, 1, 0);
        heap.store(1, 0, -1);
        heap.local(1, -1);
        due.is(14, "cut behind the second one", heap.small() + " " + heap.row(), "3 16:0 18:1");
    }

    private static void smallClearsNothing() {
        due.sentence("The other YOUNG ones go.");
        Heapkeep heap = by(4);
        heap.make(0, 0, true);
        heap.refer(1, 1, 0);
        heap.refer(2, 2, 0);
        heap.refer(3, 3, 0);
        heap.local(0, -1);
        heap.small();
        heap.small();
        due.is(14, "neither cleared nor pending", heap.counted(8) + heap.waiting() + " " + heap.counted(1), "0; 0");
    }

    private static void smallAges() {
        due.sentence("AGE of each YOUNG one is 1 more, and with an AGE of 2 or more it comes to the first RANGE behind the young room that is long enough");
        Heapkeep heap = by(4);
        heap.make(0, 2, false);
        due.is(24, "made", heap.ofObject(0, 3) + " " + heap.ofObject(0, 2), "0 0");
        heap.small();
        due.is(24, "once", heap.ofObject(0, 3) + " " + heap.ofObject(0, 2) + " " + heap.ofObject(0, 10), "1 0 1");
        heap.collect(false);
        due.is(24, "a whole one makes none older", heap.ofObject(0, 3) + " " + heap.ofObject(0, 2), "1 0");
        heap.small();
        due.is(24, "twice", heap.ofObject(0, 3) + " " + heap.ofObject(0, 2) + " " + heap.ofObject(0, 10), "2 16 0");
        heap.small();
        due.is(24, "old ones grow no older", heap.ofObject(0, 3) + " " + heap.ofObject(0, 2), "2 16");
    }

    /** Ranges of two and of four cells behind the young room, then what is left. */
    private static void smallFirstRange() {
        due.sentence("it comes to the first RANGE behind the young room that is long enough (without one it stays)");
        int[] cells = {1, 2, 3, 4, 5};
        int[] places = {8, 8, 11, 11, 16};
        for (int i = 0; i < cells.length; i++) {
            Heapkeep heap = new Heapkeep();
            heap.size(32);
            heap.make(0, 1, false);
            heap.make(1, 0, false);
            heap.make(2, 3, false);
            heap.make(3, 0, false);
            heap.keeper(4);
            heap.local(0, -1);
            heap.local(2, -1);
            heap.collect(false);
            due.is(29, "ranges", heap.free(), "0+10 11+4 16+16");
            heap.make(0, cells[i] - 1, false);
            heap.small();
            heap.small();
            due.is(14, "where " + cells[i] + " cells come", heap.ofObject(4, 2), places[i]);
        }
    }

    private static void smallCutRange() {
        due.sentence("the first RANGE behind the young room that is long enough");
        Heapkeep heap = new Heapkeep();
        heap.size(16);
        heap.make(0, 1, false);
        heap.make(1, 5, false);
        heap.keeper(4);
        heap.local(0, -1);
        heap.collect(false);
        heap.make(0, 2, false);
        heap.small();
        heap.small();
        due.is(14, "not the two cells next to the young room", heap.ofObject(2, 2) + " " + heap.free(), "12 0+6 15+1");
    }

    private static void smallByAddresses() {
        due.sentence("Then, by rising ADDRESSES, AGE of each YOUNG one is 1 more");
        Heapkeep heap = by(4);
        heap.make(0, 2, false);
        heap.make(1, 0, false);
        heap.make(2, 1, false);
        heap.small();
        heap.local(1, -1);
        heap.make(1, 0, false);
        heap.make(3, 0, false);
        due.is(14, "one goes", heap.small() + " " + heap.row(), "1 0:3 1:4 16:0 19:2");
        due.is(38, "four were moved", heap.counted(9), 4);
        due.is(24, "ages", heap.ofObject(0, 3) + " " + heap.ofObject(2, 3) + " " + heap.ofObject(3, 3) + " " + heap.ofObject(4, 3), "2 2 1 1");
        heap.local(1, -1);
        due.is(14, "one goes, one grows old", heap.small() + " " + heap.row() + " " + heap.counted(9), "1 16:0 19:2 21:4 5");
    }

    private static void smallWithoutRange() {
        due.sentence("(without one it stays); the others slide down to the CELL 0");
        Heapkeep heap = new Heapkeep();
        heap.size(16);
        heap.make(0, 6, false);
        heap.make(1, 3, false);
        heap.keeper(4);
        heap.make(2, 0, false);
        heap.make(3, 1, false);
        heap.small();
        heap.local(2, -1);
        due.is(14, "one cell is left behind the young room", heap.free(), "3+1 15+1");
        due.is(14, "two cells stay young, and slide", heap.small() + " " + heap.row() + " " + heap.ofObject(3, 10), "1 0:3 4:0 11:1 1");
        due.is(24, "its age goes on", heap.ofObject(3, 3), 2);
        heap.make(2, 0, false);
        heap.small();
        heap.small();
        due.is(14, "one cell has room there", heap.row() + " " + heap.ofObject(4, 3), "0:3 4:0 11:1 15:4 2");
        heap.local(1, -1);
        heap.collect(false);
        due.is(14, "once there is room it comes", heap.small() + " " + heap.row() + " " + heap.ofObject(3, 3), "0 4:0 11:3 15:4 5");
    }

    private static void smallCosts() {
        due.sentence("COST: how many YOUNG ones are KEPT, their FIELDS together, and how many OLD ones were REMEMBERED ahead.");
        Heapkeep heap = new Heapkeep();
        heap.make(0, 2, false);
        heap.make(1, 1, false);
        heap.keeper(4);
        heap.make(2, 3, false);
        heap.make(3, 1, false);
        heap.store(0, 0, 2);
        heap.store(0, 1, 3);
        heap.store(1, 0, 2);
        heap.store(2, 0, 3);
        heap.make(2, 4, false);
        heap.local(2, -1);
        due.is(34, "two are remembered, each once", heap.remembered(), "0 1");
        due.is(14, "one goes", heap.small() + " " + heap.counted(6), "1 " + (2 + 4 + 2));
        due.is(14, "they grow old, and were remembered ahead", heap.small() + " " + heap.remembered() + heap.counted(6) + " " + heap.counted(7), "0 16 8");
        due.is(14, "nothing costs nothing", heap.small() + " " + heap.counted(6), "0 16");
    }

    private static void remembered() {
        due.sentence("An OLD one is REMEMBERED, if a FIELD of it holds a YOUNG one.");
        Heapkeep heap = new Heapkeep();
        heap.make(0, 6, false);
        heap.make(1, 6, false);
        heap.make(2, 0, false);
        heap.keeper(4);
        heap.make(3, 1, false);
        due.is(34, "none", heap.remembered(), "");
        heap.store(0, 0, 1);
        due.is(34, "an old one that holds an old one is not", heap.remembered(), "");
        heap.store(3, 0, 3);
        due.is(34, "nor a young one that holds a young one", heap.remembered(), "");
        heap.store(1, 5, 3);
        due.is(34, "by the last field", heap.remembered(), "1");
        heap.store(0, 0, 3);
        due.is(34, "by the first field", heap.remembered(), "0 1");
        heap.store(0, 0, -1);
        heap.store(1, 5, -1);
        heap.refer(2, 3, 3);
        due.is(34, "not by a reference", heap.remembered(), "");
        due.sentence("\"\" with another KEEPER than 4");
        heap.store(1, 5, 3);
        heap.keep();
        for (int kind = 0; kind <= 6; kind++) {
            heap.back();
            due.is(34, "with the keeper 4", heap.remembered(), "1");
            heap.keeper(kind);
            due.is(34, "none, once all are old or the keeper is " + kind, heap.remembered(), "");
        }
    }

    // ---- counts

    private static void countOfMany() {
        due.sentence("COUNT of an OBJECT (with each KEEPER): how many LOCALS and FIELDS hold it");
        for (int keeper = 0; keeper <= 6; keeper++) {
            Heapkeep heap = by(keeper);
            heap.make(0, 6, false);
            for (int field = 0; field < 6; field++) {
                due.is(24, "fields", heap.ofObject(0, 4), 1 + field);
                heap.store(0, field, 0);
            }
            for (int frame = 0; frame < 5; frame++) {
                for (int slot = 0; slot < 4; slot++) {
                    heap.local(slot, 0);
                    due.is(24, "locals", heap.ofObject(0, 4), 7 + 4 * frame + slot);
                }
                if (frame < 4) {
                    heap.enter();
                }
            }
        }
        Heapkeep none = new Heapkeep();
        none.make(0, 0, false);
        none.local(0, -1);
        due.is(24, "none holds it", none.ofObject(0, 4), 0);
    }

    private static void countOfWaiting() {
        due.sentence("how often it stands in the QUEUE and in PENDING");
        Heapkeep heap = new Heapkeep();
        heap.make(0, 0, true);
        heap.refer(1, 1, 0);
        heap.refer(2, 2, 0);
        heap.local(0, -1);
        due.is(24, "a referent is not held by its references", heap.ofObject(0, 4), 0);
        heap.collect(true);
        due.is(24, "pending; a local and the queue", heap.ofObject(0, 4) + " " + heap.ofObject(1, 4), "1 2");
        heap.local(1, -1);
        due.is(24, "the queue alone", heap.ofObject(1, 4), 1);
        heap.poll();
        heap.finish(-1);
        due.is(24, "neither", heap.ofObject(0, 4) + " " + heap.ofObject(1, 4) + " " + heap.ofObject(2, 4), "0 0 2");
    }

    private static void countsByCalls() {
        due.sentence("With the KEEPER 6, behind each call that can change something");
        Heapkeep heap = by(6);
        heap.make(0, 0, false);
        heap.make(0, 0, false);
        due.is(3, "what the local held, by make()", heap.counted(0) + " " + heap.row(), "1 1:1");
        heap.make(1, 0, false);
        heap.refer(1, 1, 1);
        due.is(4, "by refer()", heap.counted(0) + " " + heap.row(), "2 1:1 2:3");
        heap.local(1, -1);
        due.is(5, "by local()", heap.counted(0) + " " + heap.row(), "3 1:1");
        heap.enter();
        heap.global(0, -1);
        due.is(6, "by global()", heap.counted(0) + heap.row(), 4);
        heap.make(0, 1, false);
        heap.make(1, 0, false);
        heap.store(4, 0, 5);
        heap.local(1, -1);
        due.is(7, "a field holds it", heap.counted(0), 4);
        heap.store(4, 0, -1);
        due.is(7, "by store()", heap.counted(0) + " " + heap.row(), "5 0:4");
        heap.make(1, 0, false);
        heap.load(1, 4, 0);
        due.is(8, "by load()", heap.counted(0) + " " + heap.row(), "6 0:4");
        heap.refer(1, 3, 4);
        heap.make(2, 0, false);
        heap.get(2, 7);
        due.is(9, "by get()", heap.counted(0) + " " + heap.row(), "7 0:4 2:7");
        heap.leave();
        due.is(11, "by leave()", heap.counted(0) + heap.row(), 9);
        due.is(38, "and no collection", collections(heap) + " " + heap.counted(6) + " " + heap.counted(8), "0 whole 0 small 9 went 0 0");
    }

    private static void countsByWaiting() {
        due.sentence("as long as there is an OBJECT whose COUNT is 0, that has no last WISH, and that is the REFERENT of no REFERENCE");
        Heapkeep heap = by(6);
        heap.make(0, 0, true);
        heap.local(0, -1);
        due.is(5, "one with a wish stays", heap.row() + heap.counted(0), "0:00");
        heap.collect(false);
        due.is(13, "pending", heap.waiting(), ";0");
        heap.finish(-1);
        due.is(18, "without it goes", heap.row() + heap.counted(0), 1);
        heap.make(0, 0, true);
        heap.local(0, -1);
        heap.collect(false);
        heap.make(0, 0, false);
        heap.finish(0);
        due.is(18, "what the local held goes", heap.row() + " " + heap.counted(0), "0:1 2");
        heap.local(0, -1);
        due.is(5, "one whose wish was heard goes", heap.row() + heap.counted(0), 3);
        heap.make(0, 0, false);
        heap.refer(1, 1, 3);
        heap.local(0, -1);
        due.is(5, "a referent stays", heap.row() + " " + heap.counted(0), "0:3 1:4 3");
        heap.collect(false);
        heap.local(1, -1);
        due.is(5, "one in the queue stays", heap.row() + " " + heap.waiting() + heap.counted(0), "1:4 4;4");
        heap.poll();
        due.is(19, "off the queue it goes", heap.row() + heap.counted(0), 5);
    }

    private static void countsOfChain() {
        due.sentence("that with the smallest NAME goes");
        Heapkeep heap = by(6);
        heap.size(128);
        heap.keeper(6);
        heap.make(0, 1, false);
        for (int name = 1; name < 64; name++) {
            heap.make(1, 1, false);
            heap.store(name, 0, name - 1);
            heap.local(0, name);
        }
        heap.local(1, -1);
        due.is(37, "64 in a row, all is full", heap.house(0) + " " + heap.house(5) + " " + heap.ofObject(0, 8), "64 0 63");
        heap.local(0, -1);
        due.is(5, "all go by one call, the last one first", heap.house(0) + " " + heap.counted(0) + " " + heap.free(), "0 64 0+128");
        Heapkeep other = by(6);
        other.make(0, 1, false);
        for (int name = 1; name < 20; name++) {
            other.make(1, 1, false);
            other.store(name - 1, 0, name);
        }
        other.load(1, 0, 0);
        other.store(1, 0, -1);
        due.is(7, "the first one first", other.house(0) + " " + other.counted(0) + " " + other.row(), "2 18 0:0 2:1");
    }

    private static void countsOfRing() {
        due.sentence("as long as there is an OBJECT whose COUNT is 0");
        Heapkeep heap = ring(6);
        heap.make(2, 0, false);
        heap.make(3, 1, false);
        heap.store(3, 0, 3);
        for (int slot = 0; slot < 4; slot++) {
            heap.local(slot, -1);
        }
        due.is(5, "a ring, and what holds itself, stay", heap.row() + " " + heap.counted(0), "0:0 3:1 6:3 1");
        due.is(13, "a whole one takes them", heap.collect(false) + heap.row(), 3);
    }

    private static void countsOfReferences() {
        due.sentence("and that is the REFERENT of no REFERENCE");
        Heapkeep heap = by(6);
        heap.make(0, 0, false);
        heap.refer(0, 2, 0);
        heap.refer(0, 1, 1);
        heap.refer(0, 3, 2);
        due.is(4, "one refers to the other", heap.row() + " " + heap.ofObject(0, 4) + heap.ofObject(1, 4) + heap.ofObject(2, 4), "0:0 1:1 3:2 5:3 000");
        heap.local(0, -1);
        due.is(5, "all go, none is cleared", heap.row() + heap.counted(0) + " " + heap.counted(8) + heap.waiting(), "4 0;");
        Heapkeep wish = by(6);
        wish.make(0, 1, true);
        wish.make(1, 0, false);
        wish.store(0, 0, 1);
        wish.refer(2, 1, 0);
        for (int slot = 0; slot < 3; slot++) {
            wish.local(slot, -1);
        }
        due.is(5, "one with a wish stays, and what it holds", wish.row() + " " + wish.counted(0), "0:0 2:1 1");
    }
}
