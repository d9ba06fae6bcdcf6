/** Section 5 at its edges: cycles, steps, what is lost, and barriers. */
public final class EdgeCycleTests {
    private static final Due due = new Due("EdgeCycleTests");

    public static void main(String[] args) {
        beginOfNone();
        beginRoots();
        beginAnew();
        colours();
        madeInACycle();
        budgets();
        budgetOfMany();
        rowFull();
        rootsAgain();
        rowByFields();
        references();
        endClears();
        endHearsWishes();
        endKeepsByWishes();
        endOfNoneToGo();
        blackIsKept();
        blackLeads();
        blackLeadsSoftly();
        lostChain();
        lostTwice();
        guardedLosesNone();
        barriersWithoutCycle();
        storeNone();
        storeNew();
        storeOld();
        readOfEach();
        orderOfBarriers();
        getFinds();
        barrierReturns();
        guarded();
        pollAndFinish();
        framesInACycle();
        unseen();
        cycleInPicture();
        due.end();
    }

    private static Heapkeep by(int store, boolean isRead) {
        Heapkeep heap = new Heapkeep();
        heap.keeper(5);
        heap.barrier(store, isRead);
        return heap;
    }

    private static Heapkeep pending(int many) {
        Heapkeep heap = new Heapkeep();
        heap.size(128);
        for (int name = 0; name < many; name++) {
            heap.make(0, 0, true);
        }
        heap.local(0, -1);
        heap.collect(false);
        heap.keeper(5);
        return heap;
    }

    private static String state(Heapkeep heap) {
        return (heap.house(8) == 1 ? "goes on, " : "none, ") + heap.grey();
    }

    // ---- its beginning

    private static void beginOfNone() {
        due.sentence("A CYCLE begins (one that is going on is broken off).");
        Heapkeep heap = by(0, false);
        due.is(15, "none is grey", heap.begin() + " " + state(heap), "0 goes on, ");
        due.sentence("and if none of them was WHITE, the CYCLE comes to its end (the work is as many more as there are OBJECTS ahead)");
        due.is(16, "none was white, none is there", heap.step(1) + " " + state(heap), "1 none, ");
        due.is(38, "counted", heap.counted(3) + " " + heap.counted(6) + " " + heap.counted(1), "1 1 0");
        due.is(16, "without it", heap.step(1), -9);
    }

    private static void beginRoots() {
        due.sentence("As it begins all are WHITE; ROOTS become GREY in their order.");
        Heapkeep heap = by(0, false);
        heap.make(0, 0, false);
        heap.refer(1, 1, 0);
        heap.make(2, 0, true);
        heap.local(0, -1);
        heap.local(2, -1);
        heap.collect(false);
        heap.make(3, 0, false);
        heap.enter();
        heap.local(0, 3);
        heap.local(3, 1);
        heap.make(1, 0, false);
        heap.make(2, 0, false);
        heap.local(2, -1);
        due.is(15, "each once, though held twice", heap.begin() + " " + heap.grey(), "4 1 3 4 2");
        due.is(24, "grey, and white", heap.ofObject(1, 5) + " " + heap.ofObject(2, 5) + " " + heap.ofObject(5, 5), "1 1 0");
        heap.global(1, -1);
        heap.local(3, -1);
        due.is(15, "the queue behind the locals", heap.begin() + " " + heap.grey(), "4 3 4 1 2");
    }

    private static void beginAnew() {
        due.sentence("(one that is going on is broken off)");
        Heapkeep heap = by(0, false);
        heap.make(0, 1, false);
        heap.make(1, 0, false);
        heap.begin();
        heap.step(3);
        due.is(24, "black ones", heap.ofObject(0, 5) + " " + heap.ofObject(1, 5) + " " + state(heap), "2 2 goes on, ");
        heap.local(1, -1);
        due.is(15, "white and grey anew", heap.begin() + " " + heap.ofObject(0, 5) + " " + heap.ofObject(1, 5) + " " + state(heap),
                "1 1 0 goes on, 0");
        due.is(38, "none came to its end", heap.counted(3), 0);
    }

    private static void colours() {
        due.sentence("In a CYCLE each OBJECT is WHITE (0), GREY (1) or BLACK (2); GREY ones stand in a row.");
        Heapkeep heap = by(0, false);
        heap.make(0, 1, false);
        heap.make(1, 0, false);
        heap.store(0, 0, 1);
        heap.local(1, -1);
        due.sentence("5 colour (NONE without a CYCLE)");
        due.is(24, "without a cycle", heap.ofObject(0, 5) + " " + heap.ofObject(1, 5), "-1 -1");
        heap.begin();
        due.is(24, "grey and white", heap.ofObject(0, 5) + " " + heap.ofObject(1, 5), "1 0");
        heap.step(1);
        due.is(24, "black and grey", heap.ofObject(0, 5) + " " + heap.ofObject(1, 5), "2 1");
        heap.step(1);
        due.is(24, "both black", heap.ofObject(0, 5) + " " + heap.ofObject(1, 5), "2 2");
        heap.step(1);
        due.is(24, "without a cycle", heap.ofObject(0, 5) + " " + heap.ofObject(1, 5), "-1 -1");
    }

    private static void madeInACycle() {
        due.sentence("An OBJECT that is made in a CYCLE is BLACK.");
        Heapkeep heap = by(2, true);
        heap.make(0, 0, false);
        heap.begin();
        heap.make(1, 0, false);
        heap.refer(2, 1, 0);
        due.is(24, "both ways", heap.ofObject(1, 5) + " " + heap.ofObject(2, 5) + " " + heap.grey(), "2 2 0");
        due.is(16, "they cost no work but at the end", heap.step(60), 1 + 1 + 3);
    }

    // ---- steps

    /** Six fields, and two without: the works 7, 1 and 1, then 1 for the roots, and 3 at the end. */
    private static void budgets() {
        due.sentence("STEPS with a budget: as long as the work is less than the budget");
        int[] budgets = {1, 6, 7, 8, 9, 10, 11, 59, 60};
        String[] states = {"7 goes on, 1 2", "7 goes on, 1 2", "7 goes on, 1 2", "8 goes on, 2", "9 goes on, ", "13 none, ",
            "13 none, ", "13 none, ", "13 none, "};
        for (int i = 0; i < budgets.length; i++) {
            Heapkeep heap = by(0, false);
            heap.make(0, 6, false);
            heap.make(1, 0, false);
            heap.make(2, 0, false);
            heap.begin();
            due.is(16, "the budget " + budgets[i], heap.step(budgets[i]) + " " + state(heap), states[i]);
            due.is(38, "all works, the greatest one, ends", heap.counted(6) + " " + heap.counted(7) + " " + heap.counted(3),
                    states[i].split(" ")[0] + " " + states[i].split(" ")[0] + " " + (budgets[i] < 10 ? 0 : 1));
        }
        Heapkeep heap = by(0, false);
        heap.make(0, 6, false);
        heap.begin();
        due.is(16, "the row is empty, the budget is met", heap.step(7) + " " + state(heap), "7 goes on, ");
        due.is(16, "then the end", heap.step(1) + " " + state(heap), "2 none, ");
    }

    private static void budgetOfMany() {
        due.sentence("STEPS with a budget: as long as the work is less than the budget");
        Heapkeep exact = pending(60);
        due.is(15, "sixty", exact.begin(), 60);
        due.is(16, "the greatest budget is met", exact.step(60) + " " + state(exact), "60 goes on, ");
        due.is(16, "the end", exact.step(1) + " " + state(exact), 1 + 60 + " none, ");
        Heapkeep fewer = pending(59);
        fewer.begin();
        due.is(16, "one fewer", fewer.step(60) + " " + state(fewer), 59 + 1 + 59 + " none, ");
        Heapkeep more = pending(61);
        more.begin();
        due.is(16, "one more", more.step(60) + " " + state(more) + " " + more.step(1) + " " + more.step(1), "60 goes on, 60 1 62");
    }

    private static void rowFull() {
        due.sentence("GREY ones stand in a row.");
        Heapkeep heap = pending(128);
        due.is(15, "128 of 128", heap.begin() + " " + heap.grey().equals(heap.waiting().substring(1)), "128 true");
        due.is(16, "the first sixty", heap.step(60) + " " + heap.grey().startsWith("60 61 "), "60 true");
        due.is(16, "sixty more", heap.step(60) + " " + heap.grey(), "60 120 121 122 123 124 125 126 127");
        due.is(16, "the others, and the end", heap.step(60) + " " + state(heap), 8 + 1 + 128 + " none, ");
        due.is(38, "none went, the greatest work", heap.counted(0) + " " + heap.house(0) + " " + heap.counted(7), "0 128 256");
        Heapkeep again = pending(128);
        again.begin();
        again.begin();
        due.is(15, "as often as one likes", again.begin(), 128);
    }

    private static Heapkeep whiteRoot() {
        Heapkeep heap = by(0, false);
        heap.make(0, 1, false);
        heap.make(1, 0, false);
        heap.store(0, 0, 1);
        heap.local(1, -1);
        heap.begin();
        heap.load(1, 0, 0);
        heap.store(0, 0, -1);
        due.is(16, "the row is empty", heap.step(2) + " " + state(heap), "2 goes on, ");
        return heap;
    }

    private static void rootsAgain() {
        due.sentence("otherwise the ROOTS become GREY in their order (the work is 1 more)");
        int[] budgets = {1, 2, 3, 60};
        String[] states = {"1 goes on, 1", "2 goes on, ", "5 none, ", "5 none, "};
        for (int i = 0; i < budgets.length; i++) {
            Heapkeep heap = whiteRoot();
            due.is(16, "one of them was white", heap.step(budgets[i]) + " " + state(heap), states[i]);
        }
        Heapkeep heap = whiteRoot();
        heap.local(1, -1);
        due.is(16, "none of them was white", heap.step(1) + " " + state(heap) + heap.row(), 1 + 2 + " none, 0:0");
    }

    private static void rowByFields() {
        due.sentence("all that it leads to become GREY by its FIELDS, and the work is 1 more, and 1 for each of its FIELDS");
        Heapkeep heap = by(0, false);
        heap.make(0, 6, false);
        heap.make(1, 0, false);
        heap.make(2, 0, false);
        heap.make(3, 1, false);
        heap.store(0, 0, 3);
        heap.store(0, 1, 2);
        heap.store(0, 3, 3);
        heap.store(0, 4, 0);
        heap.store(0, 5, 1);
        for (int slot = 1; slot <= 3; slot++) {
            heap.local(slot, -1);
        }
        heap.begin();
        due.sentence("if it is WHITE, it is GREY then and comes behind the row");
        due.is(16, "each once, none for what is none", heap.step(1) + " " + state(heap), "7 goes on, 3 2 1");
        due.is(16, "empty fields cost, too", heap.step(1) + " " + state(heap), "2 goes on, 2 1");
    }

    private static void references() {
        due.sentence("and 1 for each of its FIELDS (of a REFERENCE none)");
        Heapkeep heap = by(0, false);
        heap.make(0, 0, false);
        heap.refer(1, 1, 0);
        heap.refer(2, 3, 0);
        heap.refer(3, 2, 0);
        heap.local(0, -1);
        heap.begin();
        due.is(16, "a weak one leads to none", heap.step(1) + " " + state(heap), "1 goes on, 2 3");
        due.is(16, "nor does a last one", heap.step(1) + " " + state(heap), "1 goes on, 3");
        due.is(16, "a soft one leads", heap.step(1) + " " + state(heap), "1 goes on, 0");
        due.is(16, "the end", heap.step(2) + " " + state(heap) + heap.waiting(), 2 + 4 + " none, ;");
        heap.local(3, -1);
        heap.begin();
        due.is(16, "without the soft one", heap.step(60) + " " + heap.waiting() + " " + heap.row(), 2 + 1 + 4 + " 1 2; 1:1 3:2");
    }

    // ---- its end

    private static void endClears() {
        due.sentence("Then (b) to (f) of section 3, with SEEN being all BLACK ones and ROOTS, and all that these lead to");
        Heapkeep heap = by(0, false);
        heap.make(0, 0, false);
        heap.refer(1, 3, 0);
        heap.refer(2, 1, 0);
        heap.refer(3, 1, 0);
        heap.local(0, -1);
        heap.begin();
        due.is(16, "the end", heap.step(60), 3 + 1 + 4);
        due.is(33, "weak ones by names, then the last one", heap.waiting() + " " + heap.counted(8), "2 3 1; 3");
        due.is(38, "one went, by no whole one, and none was moved", heap.counted(0) + " " + heap.counted(1) + " " + heap.counted(9), "1 0 0");
        heap.begin();
        heap.step(60);
        due.is(33, "none comes twice", heap.waiting() + " " + heap.counted(8) + " " + heap.counted(3), "2 3 1; 3 2");
    }

    private static void endHearsWishes() {
        due.sentence("Then (b) to (f) of section 3");
        Heapkeep heap = by(0, false);
        heap.make(0, 0, true);
        heap.make(1, 0, true);
        heap.make(2, 0, true);
        heap.local(2, -1);
        heap.collect(false);
        heap.local(1, -1);
        heap.local(0, -1);
        due.is(15, "the pending one alone", heap.begin() + " " + heap.grey(), "1 2");
        due.is(16, "the end", heap.step(60) + " " + heap.waiting(), 1 + 1 + 3 + " ;2 0 1");
        due.is(24, "pending", heap.ofObject(0, 7) + " " + heap.ofObject(1, 7) + " " + heap.ofObject(2, 7), "2 2 2");
        heap.begin();
        due.is(16, "none comes twice", heap.step(60) + " " + heap.waiting(), 3 + 1 + 3 + " ;2 0 1");
    }

    private static void endKeepsByWishes() {
        due.sentence("and in (d) KEPT all that is SEEN, too");
        Heapkeep heap = by(0, false);
        heap.make(0, 2, true);
        heap.make(1, 0, false);
        heap.refer(2, 2, 1);
        heap.store(0, 0, 2);
        heap.make(3, 0, false);
        heap.refer(1, 1, 3);
        heap.store(0, 1, 4);
        for (int slot = 0; slot < 4; slot++) {
            heap.local(slot, -1);
        }
        due.is(15, "no roots", heap.begin(), 0);
        due.is(16, "a wish keeps what it leads to, softly too; a weak one it keeps is cleared", heap.step(1) + " " + heap.waiting()
                + " " + heap.row(), 1 + 5 + " 4;0 0:0 3:1 4:2 7:4");
    }

    private static void endOfNoneToGo() {
        due.sentence("comes to its end (the work is as many more as there are OBJECTS ahead), and that is all");
        Heapkeep heap = by(0, false);
        heap.make(0, 0, false);
        heap.begin();
        due.is(16, "none goes", heap.step(60) + " " + heap.counted(0) + " " + heap.counted(3), "3 0 1");
        Heapkeep all = by(0, false);
        all.make(0, 0, false);
        all.make(1, 0, false);
        all.local(0, -1);
        all.local(1, -1);
        all.begin();
        due.is(16, "those that go are counted ahead", all.step(60) + " " + all.counted(0) + " " + all.house(0), "3 2 0");
    }

    private static void blackIsKept() {
        due.sentence("SEEN being all BLACK ones and ROOTS");
        Heapkeep heap = by(0, false);
        heap.make(0, 0, false);
        heap.begin();
        heap.local(0, -1);
        heap.make(0, 1, true);
        heap.store(1, 0, 1);
        heap.local(0, -1);
        due.is(37, "none is reached", heap.house(7) + " " + heap.grey(), "0 0");
        due.is(16, "what was grey, and what was made, stay", heap.step(60) + " " + heap.row() + heap.waiting(), 1 + 1 + 2 + " 0:0 1:1;");
        heap.begin();
        due.is(16, "till the next one", heap.step(60) + " " + heap.row() + heap.waiting(), 1 + 2 + " 1:1;1");
    }

    private static void blackLeads() {
        due.sentence("and all that these lead to");
        Heapkeep heap = by(0, false);
        heap.make(0, 1, false);
        heap.make(1, 1, false);
        heap.make(2, 0, false);
        heap.store(1, 0, 2);
        heap.local(2, -1);
        heap.begin();
        heap.step(2);
        heap.load(2, 1, 0);
        heap.store(0, 0, 2);
        heap.store(1, 0, -1);
        heap.local(0, -1);
        heap.local(2, -1);
        due.is(36, "white, and held by a black one that none reaches", heap.unseen() + " " + heap.house(7), "2 1");
        heap.step(60);
        due.is(16, "kept, and not lost", heap.row() + " " + heap.counted(5), "0:0 2:1 4:2 0");
    }

    /** A reference that is made in a cycle is black, and never leads to its referent by a step. */
    private static void blackLeadsSoftly() {
        due.sentence("with SEEN being all BLACK ones and ROOTS, and all that these lead to");
        for (int kind = 1; kind <= 3; kind++) {
            Heapkeep heap = by(0, false);
            heap.make(0, 0, false);
            heap.make(1, 1, false);
            heap.store(1, 0, 0);
            heap.local(0, -1);
            heap.begin();
            heap.load(0, 1, 0);
            heap.refer(2, kind, 0);
            heap.store(1, 0, -1);
            heap.local(0, -1);
            due.is(24, "white", heap.ofObject(0, 5) + " " + heap.grey() + " " + heap.unseen(), "0 1 ");
            due.is(16, "the end", heap.step(60), 2 + 1 + 3);
            due.is(16, "a soft one keeps it, by the kind " + kind, heap.row() + " " + heap.waiting() + " " + heap.ofObject(2, 9),
                    kind == 2 ? "0:0 1:1 3:2 ; 0" : "1:1 3:2 2; -1");
        }
    }

    /** 0 is black, 1 is grey and held 2, which holds 3: both come to 0, and are white. */
    private static Heapkeep hidden(int store, boolean isRead) {
        Heapkeep heap = by(store, isRead);
        heap.make(0, 1, false);
        heap.make(1, 1, false);
        heap.make(2, 1, true);
        heap.make(3, 0, false);
        heap.store(2, 0, 3);
        heap.store(1, 0, 2);
        heap.local(2, -1);
        heap.local(3, -1);
        heap.begin();
        heap.step(1);
        heap.load(2, 1, 0);
        heap.store(0, 0, 2);
        heap.store(1, 0, -1);
        heap.local(2, -1);
        return heap;
    }

    private static void lostChain() {
        due.sentence("each OBJECT that is REACHED and not BLACK is LOST: it is counted, and kept all the same");
        Heapkeep heap = hidden(0, false);
        due.is(16, "the end", heap.step(60), 2 + 1 + 4);
        due.is(38, "two are lost, and kept, and no wish is heard", heap.counted(4) + " " + heap.counted(5) + " " + heap.shape() + heap.waiting(),
                "0 2 01-- 0[2] 0[-] 0[3] 0[];");
        due.is(40, "sound, for it was not guarded", heap.isSound(), true);
    }

    private static void lostTwice() {
        due.sentence("4 LOST ones in CYCLES that were GUARDED, 5 in others");
        Heapkeep heap = hidden(1, false);
        heap.barrier(0, false);
        due.is(37, "not guarded any more", heap.house(9) + " " + heap.grey(), "0 1 2");
        heap.step(60);
        due.is(38, "none was lost, for it was grey by then", heap.counted(4) + " " + heap.counted(5), "0 0");
        Heapkeep late = hidden(0, false);
        late.barrier(1, true);
        late.step(60);
        due.is(38, "a barrier told later guards nothing", late.counted(4) + " " + late.counted(5), "0 2");
        late.barrier(0, false);
        late.begin();
        late.step(60);
        due.is(38, "the next one sees all", late.counted(5) + " " + late.counted(3), "2 2");
    }

    private static void guardedLosesNone() {
        due.sentence("and none was LOST in a CYCLE that was GUARDED");
        for (int barriers = 1; barriers < 6; barriers++) {
            Heapkeep heap = hidden(barriers % 3, barriers >= 3);
            due.is(37, "guarded", heap.house(9), 1);
            heap.step(60);
            due.is(38, "none lost by " + barriers, heap.counted(4) + " " + heap.counted(5) + " " + heap.isSound(), "0 0 true");
        }
    }

    // ---- barriers

    private static void barriersWithoutCycle() {
        due.sentence("BARRIERS, in a CYCLE");
        Heapkeep heap = by(2, true);
        heap.make(0, 2, false);
        heap.make(1, 0, false);
        heap.store(0, 0, 1);
        heap.store(0, 0, -1);
        heap.refer(2, 1, 1);
        heap.get(3, 2);
        due.is(35, "none is grey", heap.grey() + heap.house(8), 0);
        heap.store(0, 0, 1);
        heap.local(1, -1);
        heap.local(3, -1);
        due.is(15, "the roots alone", heap.begin() + " " + heap.grey(), "2 0 2");
    }

    /** 0 holds 1 and 2; 1 holds 3; all but 0 are white. */
    private static Heapkeep tree(int store, boolean isRead) {
        Heapkeep heap = by(store, isRead);
        heap.make(0, 3, false);
        heap.make(1, 1, false);
        heap.make(2, 1, false);
        heap.make(3, 1, false);
        heap.store(0, 0, 1);
        heap.store(0, 1, 2);
        heap.store(1, 0, 3);
        heap.refer(1, 1, 3);
        heap.store(2, 0, 4);
        for (int slot = 1; slot < 4; slot++) {
            heap.local(slot, -1);
        }
        heap.begin();
        return heap;
    }

    private static void storeNone() {
        due.sentence("STORE 0 none (at first)");
        due.is(37, "at first", new Heapkeep().house(11) + " " + new Heapkeep().house(12), "0 0");
        Heapkeep heap = tree(0, false);
        heap.store(0, 2, 3);
        heap.store(1, 0, -1);
        heap.local(1, 2);
        heap.global(2, 3);
        heap.load(3, 0, 0);
        heap.refer(3, 1, 3);
        due.is(35, "nothing becomes grey", heap.grey(), "0");
    }

    private static void storeNew() {
        due.sentence("1 NEW: what is stored into a FIELD becomes GREY");
        Heapkeep heap = tree(1, false);
        heap.store(0, 2, 3);
        due.is(35, "what is stored", heap.grey(), "0 3");
        heap.store(0, 2, 3);
        heap.store(1, 0, -1);
        heap.store(0, 2, 0);
        heap.local(1, 2);
        heap.global(3, 1);
        heap.load(2, 0, 1);
        due.is(35, "not twice, not none, not what stood there, not by others", heap.grey(), "0 3");
        heap.step(1);
        heap.store(1, 0, 0);
        due.is(35, "nor is a black one grey again", heap.grey() + " " + heap.ofObject(0, 5), "3 1 2 2");
    }

    private static void storeOld() {
        due.sentence("2 OLD: what stood in the FIELD becomes GREY");
        Heapkeep heap = tree(2, false);
        heap.store(0, 2, 3);
        due.is(35, "nothing stood there", heap.grey(), "0");
        heap.store(0, 2, -1);
        due.is(35, "what stood there", heap.grey(), "0 3");
        heap.store(0, 0, 1);
        due.is(35, "the same one again", heap.grey(), "0 3 1");
        heap.store(0, 0, -1);
        heap.local(1, 2);
        heap.load(2, 0, 1);
        due.is(35, "not twice, not by others", heap.grey(), "0 3 1");
    }

    private static String greyBehind(int store, boolean isRead, Twins.Act act) {
        Heapkeep heap = tree(store, isRead);
        act.on(heap);
        return heap.grey();
    }

    private static void readOfEach() {
        due.sentence("READ (not at first): each OBJECT that local(), global(), store() (both), load(), refer() or get() names, and what load() finds, becomes GREY.");
        due.is(5, "local()", greyBehind(0, true, h -> h.local(1, 3)), "0 3");
        due.is(5, "local() with none", greyBehind(0, true, h -> h.local(1, -1)), "0");
        due.is(5, "not what the local held", greyBehind(0, true, h -> h.local(1, 3) + h.local(1, 2)), "0 3 2");
        due.is(6, "global()", greyBehind(0, true, h -> h.global(3, 3)), "0 3");
        due.is(6, "global() with none", greyBehind(0, true, h -> h.global(0, -1)), "0");
        due.is(7, "store(), both", greyBehind(0, true, h -> h.store(1, 0, 4)), "0 1 4");
        due.is(7, "store() of none, not what stood there", greyBehind(0, true, h -> h.store(1, 0, -1)), "0 1");
        due.is(7, "store() of itself", greyBehind(0, true, h -> h.store(1, 0, 1)), "0 1");
        due.is(8, "load(), and what it finds", greyBehind(0, true, h -> h.load(1, 1, 0)), "0 1 3");
        due.is(8, "load() that finds none", greyBehind(0, true, h -> h.load(1, 3, 0)), "0 3");
        due.is(4, "refer()", greyBehind(0, true, h -> h.refer(1, 1, 2)), "0 2");
        due.is(9, "get(), and what it finds", greyBehind(0, true, h -> h.get(1, 4)), "0 4 3");
        due.is(35, "others name none", greyBehind(0, true, h -> h.make(1, 1, false) + h.enter() + h.leave() + h.poll() + h.finish(0)), "0");
        due.is(35, "what is asked names none", greyBehind(0, true, h -> h.path(3) + h.field(1, 0) + h.ofObject(3, 9)), "0");
        due.is(35, "what is refused names none", greyBehind(0, true, h -> Twins.answer(h, x -> x.local(4, 3))
                + Twins.answer(h, x -> x.store(1, 1, 3)) + Twins.answer(h, x -> x.load(0, 4, 0)) + Twins.answer(h, x -> x.get(0, 3))), "0");
    }

    private static void orderOfBarriers() {
        due.sentence("(In this order: what is named, by its place in the call; what is found; what is stored; what stood there.)");
        String[] greys = {"0", "0 4", "0 3", "0 1 4", "0 1 4", "0 1 4 3"};
        for (int barriers = 0; barriers < 6; barriers++) {
            due.is(7, "store(), by " + barriers, greyBehind(barriers % 3, barriers >= 3, h -> h.store(1, 0, 4)), greys[barriers]);
        }
    }

    private static void getFinds() {
        due.sentence("Whatever BARRIERS there are, what get() finds becomes GREY.");
        for (int store = 0; store <= 2; store++) {
            due.is(9, "without read, what it finds alone", greyBehind(store, false, h -> h.get(1, 4)), "0 3");
            due.is(9, "twice", greyBehind(store, false, h -> h.get(1, 4) + h.get(2, 4)), "0 3");
            due.is(9, "of a soft one", greyBehind(store, false, h -> h.refer(1, 2, 1) + h.get(2, 5)), "0 1");
            due.is(9, "a last one finds none", greyBehind(store, false, h -> h.refer(1, 3, 1) + h.get(2, 5)), "0");
        }
        Heapkeep heap = by(0, false);
        heap.make(0, 0, false);
        heap.refer(1, 1, 0);
        heap.local(0, -1);
        heap.collect(false);
        heap.begin();
        due.is(9, "a cleared one finds none", heap.get(0, 1) + " " + heap.grey(), "-1 1");
        Heapkeep black = tree(0, false);
        black.step(60);
        black.get(1, 4);
        due.is(9, "without a cycle", black.grey() + black.house(8), 0);
    }

    private static void barrierReturns() {
        due.sentence("Returns STORE before.");
        Heapkeep heap = new Heapkeep();
        for (int before = 0; before <= 2; before++) {
            for (int store = 0; store <= 2; store++) {
                heap.barrier(before, store == 1);
                due.is(17, "before", heap.barrier(store, before == 1), before);
                due.is(37, "told", heap.house(11) + " " + heap.house(12), store + " " + (before == 1 ? 1 : 0));
            }
        }
        heap.barrier(2, true);
        heap.keeper(5);
        heap.begin();
        heap.step(60);
        heap.collect(true);
        due.is(37, "they stay", heap.house(11) + " " + heap.house(12), "2 1");
        heap.size(64);
        due.is(37, "but for size()", heap.house(11) + " " + heap.house(12), "0 0");
    }

    /** Each barriers as it began, by each that are told then. */
    private static void guarded() {
        due.sentence("A CYCLE is GUARDED, if as it began there was a BARRIER (STORE 1 or 2, or READ), and these did not become others since.");
        for (int first = 0; first < 6; first++) {
            for (int then = 0; then < 6; then++) {
                Heapkeep heap = by(first % 3, first >= 3);
                due.is(37, "not without a cycle", heap.house(9), 0);
                heap.begin();
                due.is(37, "as it began, " + first, heap.house(9), first == 0 ? 0 : 1);
                heap.barrier(then % 3, then >= 3);
                due.is(37, "by " + first + ", then " + then, heap.house(9), first != 0 && then == first ? 1 : 0);
                heap.barrier(first % 3, first >= 3);
                due.is(37, "and the first ones again", heap.house(9), first != 0 && then == first ? 1 : 0);
                heap.begin();
                due.is(37, "anew", heap.house(9), first == 0 ? 0 : 1);
                heap.step(1);
                due.is(37, "not once it ended", heap.house(8) + " " + heap.house(9), "0 0");
            }
        }
    }

    // ---- other calls in a cycle

    private static void pollAndFinish() {
        due.sentence("GREY ones stand in a row.");
        Heapkeep heap = by(0, false);
        heap.make(0, 0, true);
        heap.refer(1, 1, 0);
        heap.local(0, -1);
        heap.collect(false);
        heap.local(1, -1);
        due.is(15, "the queue and pending", heap.begin() + " " + heap.grey(), "2 1 0");
        due.is(19, "taken off, but grey", heap.poll() + " " + heap.finish(-1) + " " + heap.grey(), "1 0 1 0");
        due.is(16, "both stay", heap.step(60) + " " + heap.house(0), 2 + 1 + 2 + " 2");
        heap.begin();
        due.is(16, "till the next one", heap.step(60) + " " + heap.house(0), 1 + 2 + " 0");
    }

    private static void framesInACycle() {
        due.sentence("GREY ones stand in a row.");
        Heapkeep heap = by(0, false);
        heap.enter();
        heap.make(0, 0, false);
        heap.begin();
        heap.leave();
        due.is(35, "what a local held that went", heap.grey() + " " + heap.house(7), "0 0");
        due.is(16, "it stays", heap.step(60) + " " + heap.house(0), 1 + 1 + 1 + " 1");
    }

    private static void unseen() {
        due.sentence("Returns OBJECTS that are WHITE and that a FIELD of a BLACK one holds, by rising NAMES, with a blank between two; \"\" without a CYCLE.");
        Heapkeep heap = by(0, false);
        heap.make(0, 3, false);
        for (int name = 1; name <= 3; name++) {
            heap.make(1, 0, false);
            heap.store(0, name - 1, name);
        }
        heap.local(1, -1);
        due.is(36, "without a cycle", heap.unseen(), "");
        heap.begin();
        due.is(36, "grey ones hold them", heap.unseen(), "");
        heap.make(1, 6, false);
        heap.store(4, 0, 3);
        heap.store(4, 4, 2);
        heap.store(4, 5, 3);
        heap.store(4, 3, 0);
        due.is(36, "by names, each once, no grey one", heap.unseen(), "2 3");
        heap.make(2, 1, false);
        heap.store(5, 0, 2);
        heap.refer(3, 2, 1);
        due.is(36, "held by two, and held softly", heap.unseen(), "2 3");
        heap.step(1);
        due.is(36, "all are grey", heap.unseen() + heap.grey(), "1 2 3");
        heap.collect(false);
        due.is(36, "broken off", heap.unseen(), "");
        Heapkeep first = by(0, false);
        first.make(0, 0, false);
        first.make(1, 1, false);
        first.store(1, 0, 0);
        first.local(0, -1);
        first.begin();
        first.load(0, 1, 0);
        first.make(2, 1, false);
        first.store(2, 0, 0);
        due.is(36, "the first name of all", first.unseen(), "0");
    }

    private static void cycleInPicture() {
        due.sentence("The PICTURE is all as it was");
        Heapkeep heap = tree(1, true);
        heap.step(1);
        heap.keep();
        String before = state(heap) + heap.house(9) + heap.unseen();
        for (int times = 0; times < 3; times++) {
            heap.step(60);
            due.is(38, "it came to its end", heap.counted(3) + " " + state(heap), (times + 1) + " none, ");
            heap.back();
            due.is(21, "it goes on again", state(heap) + heap.house(9) + heap.unseen(), before);
        }
        heap.collect(false);
        heap.keep();
        heap.begin();
        heap.back();
        due.is(21, "none was going on", state(heap) + heap.house(9), "none, 0");
    }
}
