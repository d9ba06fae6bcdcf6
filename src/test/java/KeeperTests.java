/** Promises 12 to 19: keepers, collections and cycles. */
public final class KeeperTests {
    private static final Due due = new Due("KeeperTests");

    public static void main(String[] args) {
        keeper();
        keeperWithoutRoom();
        keeperOfCounts();
        places();
        collect();
        collectWishes();
        collectReferences();
        collectHard();
        collectHalves();
        collectHalvesByQueue();
        collectSlide();
        collectYoungKeeper();
        costs();
        small();
        smallKeeps();
        smallWithoutOldRoom();
        begin();
        step();
        stepByRoots();
        stepBySoft();
        stepEndsByBlack();
        stepEndsBySoft();
        stepEnds();
        stepLoses();
        barrier();
        barrierRead();
        barrierGet();
        guarded();
        finish();
        poll();
        counts();
        due.end();
    }

    private static void keeper() {
        Heapkeep heap = new Heapkeep();
        heap.make(0, 3, false);
        heap.make(0, 1, false);
        heap.make(1, 0, false);
        heap.collect(false);
        due.is(12, "a hole", heap.row(), "4:1 6:2");
        due.is(12, "the keeper before", heap.keeper(3) + " " + heap.house(3), "0 3");
        due.is(12, "laid down", heap.row(), "0:1 2:2");
        due.is(12, "not moved by a collection", heap.counted(9), 0);
        due.is(12, "the keeper before", heap.keeper(4) + " " + heap.row(), "3 16:1 18:2");
        due.is(12, "they are old", heap.ofObject(1, 10), 0);
        heap.make(2, 0, false);
        heap.small();
        heap.small();
        heap.make(3, 0, false);
        heap.small();
        due.is(12, "ages", heap.ofObject(3, 3) + " " + heap.ofObject(4, 3) + " " + heap.row(), "2 1 0:4 16:1 18:2 19:3");
        due.is(12, "the same one again", heap.keeper(4) + " " + heap.row(), "4 16:4 17:1 19:2 20:3");
        Heapkeep first = new Heapkeep();
        first.keeper(4);
        first.make(0, 0, false);
        first.small();
        due.is(12, "the age of the first", first.ofObject(0, 3) + " " + first.keeper(4) + " " + first.ofObject(0, 3), "1 4 0");
        due.is(12, "ages", heap.ofObject(3, 3) + " " + heap.ofObject(4, 3), "0 0");
        heap.keeper(2);
        heap.collect(false);
        due.is(12, "the half", heap.house(10), 1);
        due.is(12, "the same one again", heap.keeper(2) + " " + heap.house(10) + " " + heap.row(), "2 0 0:1 2:2 3:3 4:4");
        heap.keeper(5);
        heap.begin();
        due.is(12, "a cycle", heap.house(8), 1);
        due.is(12, "it is broken off", heap.keeper(5) + " " + heap.house(8) + heap.grey(), "5 0");
        due.is(12, "a keeper of its own", heap.keeper(0) + " " + heap.keeper(1) + " " + heap.keeper(6), "5 0 1");
        due.failsAndChangesNothing(12, "keeper(-1)", Due.ARGUMENT, heap, () -> heap.keeper(-1));
        due.failsAndChangesNothing(12, "keeper(7)", Due.ARGUMENT, heap, () -> heap.keeper(7));
    }

    private static void keeperWithoutRoom() {
        Heapkeep heap = new Heapkeep();
        heap.size(17);
        heap.make(0, 6, false);
        heap.make(1, 0, false);
        due.is(12, "8 of 17 cells have room in a half", heap.keeper(2), 0);
        heap.keeper(5);
        heap.make(2, 0, false);
        heap.begin();
        String before = heap.digest() + heap.row() + heap.grey();
        due.is(12, "9 of 17 have none", heap.keeper(2), -9);
        due.is(12, "nothing changes", heap.digest() + heap.row() + heap.grey(), before);
        due.is(12, "9 have room behind the young room", heap.keeper(4) + " " + heap.row(), "5 4:0 11:1 12:2");
        heap.keeper(3);
        heap.make(3, 3, false);
        due.is(12, "13 of 17 have room behind the young room", heap.keeper(4) + " " + heap.free(), "3 0+4");
        heap.keeper(3);
        heap.enter();
        heap.make(3, 0, false);
        due.is(12, "14 have none", heap.keeper(4) + " " + heap.house(3), "-9 3");
    }

    /** What has to go is laid before it goes. */
    private static void keeperOfCounts() {
        Heapkeep heap = new Heapkeep();
        heap.make(0, 1, false);
        heap.make(0, 0, false);
        heap.make(1, 0, true);
        heap.local(1, -1);
        due.is(12, "the keeper before", heap.keeper(6), 0);
        due.is(12, "laid first, then", heap.row() + " " + heap.counted(0), "2:1 3:2 1");
    }

    private static void places() {
        Heapkeep heap = new Heapkeep();
        heap.size(32);
        int[] fields = {3, 0, 1, 0, 2, 0};
        for (int i = 0; i < fields.length; i++) {
            heap.make(i % 2 == 0 ? 0 : i / 2 + 1, fields[i], false);
        }
        heap.local(0, -1);
        heap.collect(false);
        due.is(30, "ranges", heap.free(), "0+4 5+2 8+3 12+20");
        String[] places = {"0 0 0 0 12 12 12", "5 5 8 0 12 12 12", "12 12 12 12 12 12 12"};
        due.is(30, "the first range", fits(heap), places[0]);
        heap.keep();
        int[] keepers = {0, 5, 6};
        for (int kind : keepers) {
            heap.back();
            due.is(30, "the first range, once laid", heap.keeper(kind) + fits(heap), "03 3 3 3 3 3 3");
        }
        Heapkeep best = new Heapkeep();
        best.size(32);
        best.keeper(1);
        for (int i = 0; i < fields.length; i++) {
            best.make(i % 2 == 0 ? 0 : i / 2 + 1, fields[i], false);
        }
        best.local(0, -1);
        best.collect(false);
        due.is(30, "the shortest range", fits(best), places[1]);
        Heapkeep slide = new Heapkeep();
        slide.size(16);
        slide.keeper(3);
        slide.make(0, 6, false);
        slide.make(0, 3, false);
        due.is(30, "behind the last one", fits(slide), "11 11 11 11 11 -1 -1");
        Heapkeep halves = new Heapkeep();
        halves.size(17);
        halves.keeper(2);
        halves.make(0, 3, false);
        due.is(30, "in the half 0", fits(halves), "4 4 4 4 -1 -1 -1");
        halves.collect(false);
        due.is(30, "in the half 1", fits(halves), "12 12 12 12 -1 -1 -1");
        Heapkeep young = new Heapkeep();
        young.size(26);
        young.keeper(4);
        young.make(0, 2, false);
        due.is(30, "in the young room and behind it", fits(young), "3 3 3 6 6 6 6");
        young.local(0, -1);
        young.small();
        young.make(0, 0, false);
        due.is(30, "a range is cut", fits(young) + " " + young.free(), "1 1 1 1 1 6 6 1+25");
    }

    private static String fits(Heapkeep heap) {
        StringBuilder text = new StringBuilder();
        for (int cells = 1; cells <= 7; cells++) {
            text.append(cells == 1 ? "" : " ").append(heap.fits(cells));
        }
        return text.toString();
    }

    private static void collect() {
        Heapkeep heap = new Heapkeep();
        heap.make(0, 2, false);
        heap.make(1, 1, false);
        heap.make(2, 1, false);
        heap.make(3, 1, false);
        heap.store(0, 1, 1);
        heap.store(2, 0, 3);
        heap.store(3, 0, 2);
        heap.local(1, -1);
        heap.local(2, -1);
        heap.local(3, -1);
        due.is(13, "a ring goes", heap.collect(false), 2);
        due.is(13, "who is there", heap.row() + " " + heap.shape(), "0:0 3:1 0--- 0[-,1] 0[-]");
        due.is(13, "nothing more goes", heap.collect(true), 0);
        due.is(13, "counted", heap.counted(0) + " " + heap.counted(1) + " " + heap.counted(6) + " " + heap.counted(7),
                "2 2 " + ((2 + 3 + 4) + (2 + 3 + 2)) + " 9");
    }

    private static void collectWishes() {
        Heapkeep heap = new Heapkeep();
        heap.make(0, 1, true);
        heap.make(1, 0, true);
        heap.make(2, 1, false);
        heap.store(0, 0, 2);
        heap.store(2, 0, 1);
        heap.local(0, -1);
        heap.local(1, -1);
        heap.local(2, -1);
        due.is(13, "none goes", heap.collect(true), 0);
        due.is(13, "both are pending", heap.waiting() + " " + heap.ofObject(0, 7) + heap.ofObject(1, 7), ";0 1 22");
        due.is(13, "none comes twice", heap.collect(false) + heap.waiting(), "0;0 1");
        heap.finish(-1);
        due.is(13, "those held by none go", heap.collect(false) + heap.waiting(), "2;1");
        heap.finish(0);
        due.is(13, "a wish is heard once", heap.local(0, -1) + " " + heap.collect(false) + heap.waiting(), "1 1;");
    }

    private static void collectReferences() {
        Heapkeep heap = new Heapkeep();
        heap.make(0, 0, false);
        heap.refer(1, 3, 0);
        heap.refer(2, 1, 0);
        heap.refer(3, 1, 0);
        heap.local(0, 3);
        heap.local(3, -1);
        due.is(13, "it goes", heap.collect(false), 1);
        due.is(13, "weak ones first, then last ones", heap.waiting() + " " + heap.counted(8), "2 3 1; 3");
        Heapkeep wish = new Heapkeep();
        wish.make(0, 2, true);
        wish.make(1, 0, false);
        wish.refer(2, 1, 1);
        wish.store(0, 0, 2);
        wish.refer(3, 1, 0);
        wish.local(0, -1);
        wish.local(1, -1);
        wish.local(2, -1);
        due.is(13, "one goes", wish.collect(false), 1);
        due.is(13, "a weak one kept by a wish is cleared later", wish.waiting(), "3 2;0");
        Heapkeep both = new Heapkeep();
        both.make(0, 2, true);
        both.make(1, 0, false);
        both.refer(2, 1, 1);
        both.store(0, 0, 2);
        both.store(0, 1, 1);
        both.refer(3, 3, 1);
        both.local(0, -1);
        both.local(1, -1);
        both.local(2, -1);
        due.is(13, "none goes, none is cleared", both.collect(false) + both.waiting() + both.ofObject(2, 9), "0;01");
        both.finish(-1);
        due.is(13, "all go", both.collect(false) + both.waiting(), "33;");
        due.is(13, "the queue keeps", both.local(3, -1) + " " + both.collect(false) + " " + both.house(0), "3 0 1");
    }

    private static void collectHard() {
        Heapkeep heap = new Heapkeep();
        heap.make(0, 1, false);
        heap.make(1, 0, false);
        heap.store(0, 0, 1);
        heap.refer(2, 2, 0);
        heap.refer(3, 1, 1);
        heap.local(0, -1);
        heap.local(1, -1);
        due.is(13, "what is soft stays", heap.collect(false) + heap.waiting(), "0;");
        due.is(13, "but not if it is hard", heap.collect(true) + heap.waiting(), "22 3;");
    }

    private static void collectHalves() {
        Heapkeep heap = new Heapkeep();
        heap.keeper(2);
        heap.make(0, 2, false);
        heap.make(1, 0, false);
        heap.make(2, 0, false);
        heap.make(3, 1, true);
        heap.store(0, 0, 2);
        heap.store(0, 1, 1);
        heap.local(1, -1);
        heap.local(2, -1);
        heap.refer(1, 1, 3);
        heap.local(3, -1);
        due.is(13, "none goes", heap.collect(false) + heap.waiting(), "04;3");
        due.is(13, "copied by rows", heap.row(), "32:0 35:4 37:3 39:2 40:1");
        due.is(13, "all were moved", heap.counted(9) + " " + heap.house(10) + " " + heap.counted(6), "5 1 12");
        heap.make(2, 0, false);
        due.is(13, "behind the last of the half", heap.ofObject(5, 2), 41);
        heap.local(1, -1);
        heap.poll();
        due.is(13, "one goes", heap.collect(false) + " " + heap.row() + " " + heap.house(10), "1 0:0 3:5 4:3 6:2 7:1 0");
    }

    /** The last one is a root, once it was cleared; what is soft leads as by a field. */
    private static void collectHalvesByQueue() {
        Heapkeep heap = new Heapkeep();
        heap.keeper(2);
        heap.make(0, 3, false);
        heap.make(1, 0, false);
        heap.refer(2, 2, 1);
        heap.store(0, 0, 2);
        heap.make(3, 0, false);
        heap.store(0, 1, 3);
        heap.make(1, 0, false);
        heap.refer(2, 3, 4);
        heap.store(0, 2, 5);
        heap.local(1, -1);
        heap.local(2, -1);
        heap.local(3, -1);
        due.is(13, "one goes", heap.collect(false) + heap.waiting(), "15;");
        due.is(13, "copied by rows", heap.row(), "32:0 36:5 38:2 40:3 41:1");
    }

    private static void collectSlide() {
        Heapkeep heap = new Heapkeep();
        heap.keeper(3);
        heap.make(0, 0, false);
        heap.make(1, 2, false);
        heap.make(2, 1, false);
        heap.make(1, 0, false);
        heap.make(3, 0, false);
        heap.local(0, 4);
        due.is(13, "two go", heap.collect(false) + " " + heap.row(), "2 0:2 2:3 3:4");
        due.is(13, "three were moved", heap.counted(9), 3);
        heap.local(0, -1);
        heap.collect(false);
        due.is(13, "none was moved", heap.counted(9), 3);
        due.is(13, "costs", heap.counted(6), (3 + 1 + 5 + 4) + (3 + 1 + 3 + 4));
    }

    private static void collectYoungKeeper() {
        Heapkeep heap = new Heapkeep();
        heap.make(0, 0, false);
        heap.make(1, 0, false);
        heap.keeper(4);
        heap.make(2, 1, false);
        heap.make(2, 2, false);
        heap.make(3, 0, false);
        heap.local(0, -1);
        heap.small();
        heap.make(3, 0, false);
        due.is(13, "lies", heap.row(), "0:3 3:4 4:5 16:0 17:1");
        due.is(13, "two go", heap.collect(false) + " " + heap.row(), "2 0:3 3:5 17:1");
        due.is(13, "ages stay", heap.ofObject(3, 3) + " " + heap.ofObject(5, 3), "1 0");
        due.is(13, "moved, with the small one", heap.counted(9), 2 + 1);
    }

    /** n 4, f 5; kept 2, with 3 fields and 5 cells. */
    private static void costs() {
        int[] costs = {9, 9, 8, 14, 9, 9, 20};
        for (int kind = 0; kind <= 6; kind++) {
            Heapkeep heap = new Heapkeep();
            heap.keeper(kind);
            heap.make(0, 3, false);
            heap.make(1, 0, false);
            heap.make(2, 1, false);
            heap.make(3, 1, false);
            heap.store(2, 0, 3);
            heap.store(3, 0, 2);
            heap.local(2, -1);
            heap.local(3, -1);
            for (int asked = 0; asked <= 6; asked++) {
                due.is(32, "cost(" + asked + ")", heap.cost(asked), costs[asked]);
            }
            due.is(32, "nothing was counted", heap.counted(6) + heap.counted(1), 0);
            due.is(13, "two go", heap.collect(false), 2);
            due.is(38, "the cost by keeper " + kind, heap.counted(6) + " " + heap.counted(7), costs[kind] + " " + costs[kind]);
        }
    }

    private static void small() {
        Heapkeep heap = new Heapkeep();
        for (int kind = 0; kind <= 6; kind++) {
            heap.keeper(kind);
            String before = "" + heap.digest();
            due.is(14, "let by keeper " + kind, kind == 4 ? -9 : heap.small(), -9);
            due.is(14, "nothing changes", heap.digest(), before);
        }
        heap.keeper(4);
        heap.make(0, 3, false);
        heap.make(1, 2, false);
        heap.make(2, 1, false);
        heap.local(0, -1);
        due.is(14, "one goes", heap.small() + " " + heap.row(), "1 0:1 3:2");
        due.is(14, "ages", heap.ofObject(1, 3) + " " + heap.ofObject(2, 3), "1 1");
        due.is(14, "cost", heap.counted(6) + " " + heap.counted(2) + " " + heap.counted(9), 2 + 3 + " 1 2");
        heap.make(0, 0, false);
        heap.local(1, -1);
        due.is(14, "one goes, one grows old", heap.small() + " " + heap.row(), "1 0:3 16:2");
        due.is(14, "it keeps its age", heap.ofObject(2, 3) + " " + heap.ofObject(2, 10), "2 0");
        heap.store(2, 0, 3);
        heap.local(0, -1);
        heap.local(2, -1);
        due.is(14, "one is remembered", heap.remembered(), "2");
        due.is(14, "an old one keeps it, reached or not", heap.small() + " " + heap.row(), "0 16:2 18:3");
        due.is(14, "cost", heap.counted(6) + " " + heap.counted(7), 5 + 2 + 1 + (1 + 0 + 1) + " 5");
        due.is(14, "none is remembered", heap.remembered(), "");
    }

    /** Nothing of this is held by a local. */
    private static void smallKeeps() {
        Heapkeep heap = new Heapkeep();
        heap.make(0, 1, false);
        heap.keeper(4);
        heap.make(1, 2, true);
        heap.make(2, 1, false);
        heap.store(1, 0, 2);
        heap.make(3, 0, false);
        heap.refer(3, 1, 3);
        heap.refer(2, 3, 0);
        heap.make(1, 0, false);
        heap.make(1, 1, false);
        heap.store(7, 0, 7);
        heap.local(1, -1);
        heap.local(2, -1);
        heap.local(3, -1);
        due.is(14, "lies", heap.row(), "0:1 3:2 5:3 6:4 8:5 10:6 11:7 16:0");
        due.is(14, "two go", heap.small() + " " + heap.row(), "2 0:1 3:2 5:3 6:4 8:5 16:0");
        due.is(14, "cost", heap.counted(6), 5 + 3 + 0);
        heap.store(0, 0, 0);
        due.is(14, "all grow old", heap.small() + " " + heap.row(), "0 16:0 18:1 21:2 23:3 24:4 26:5");
        heap.collect(false);
        due.is(14, "but a whole one hears the wish", heap.waiting() + " " + heap.row(), ";1 16:0 18:1 21:2");
    }

    private static void smallWithoutOldRoom() {
        Heapkeep heap = new Heapkeep();
        heap.size(16);
        heap.keeper(4);
        heap.make(0, 6, false);
        heap.make(1, 2, false);
        heap.enter();
        heap.make(0, 2, false);
        due.is(14, "lies", heap.row(), "0:1 4:0 11:2");
        heap.make(1, 0, false);
        due.is(14, "lies", heap.row(), "0:1 3:3 4:0 11:2");
        due.is(14, "ages", heap.ofObject(1, 3) + " " + heap.ofObject(3, 3), "1 0");
        due.is(14, "without room it stays", heap.small() + " " + heap.row(), "0 0:1 3:3 4:0 11:2");
        due.is(14, "ages", heap.ofObject(1, 3) + " " + heap.ofObject(3, 3), "2 1");
        due.is(14, "a shorter one has room", heap.small() + " " + heap.row(), "0 0:1 4:0 11:2 14:3");
        due.is(14, "ages", heap.ofObject(1, 3) + " " + heap.ofObject(3, 3), "3 2");
        heap.local(0, -1);
        heap.collect(false);
        due.is(14, "once there is room it goes there", heap.small() + " " + heap.row(), "0 4:0 11:1 14:3");
        due.is(14, "age", heap.ofObject(1, 3), 4);
    }

    private static void begin() {
        Heapkeep heap = new Heapkeep();
        due.is(15, "let with the keeper 5 alone", heap.begin() + " " + heap.house(8), "-9 0");
        heap.keeper(5);
        due.is(15, "none is grey", heap.begin() + " " + heap.house(8) + heap.grey(), "0 1");
        heap.make(3, 1, true);
        heap.make(0, 1, false);
        heap.make(1, 0, false);
        heap.refer(2, 1, 2);
        heap.store(1, 0, 0);
        heap.local(1, 3);
        heap.local(3, -1);
        heap.enter();
        heap.local(0, 1);
        due.is(15, "roots in their order", heap.begin() + " " + heap.grey(), "2 1 3");
        due.is(15, "colours", heap.ofObject(0, 5) + " " + heap.ofObject(1, 5) + " " + heap.ofObject(3, 5), "0 1 1");
        heap.store(1, 0, -1);
        heap.collect(false);
        due.is(15, "waiting", heap.waiting(), "3;0");
        due.is(15, "queue, then pending", heap.begin() + " " + heap.grey(), "3 1 3 0");
        heap.step(3);
        due.is(15, "colours", heap.ofObject(1, 5) + " " + heap.ofObject(3, 5) + heap.ofObject(0, 5), "2 21");
        due.is(15, "a new one", heap.begin() + " " + heap.grey() + " " + heap.ofObject(1, 5), "3 1 3 0 1");
    }

    private static void step() {
        Heapkeep heap = new Heapkeep();
        due.is(16, "let in a cycle alone", heap.step(1), -9);
        due.failsAndChangesNothing(16, "step(0)", Due.ARGUMENT, heap, () -> heap.step(0));
        due.failsAndChangesNothing(16, "step(61)", Due.ARGUMENT, heap, () -> heap.step(61));
        heap.keeper(5);
        due.is(16, "let in a cycle alone", heap.step(60), -9);
        heap.make(0, 3, false);
        heap.make(1, 0, false);
        heap.make(2, 0, false);
        heap.store(0, 2, 1);
        heap.store(0, 0, 2);
        heap.local(1, -1);
        heap.local(2, -1);
        heap.make(3, 0, false);
        heap.local(3, -1);
        heap.begin();
        due.is(16, "a step", heap.step(1) + " " + heap.grey(), "4 2 1");
        due.is(16, "a step", heap.step(1) + " " + heap.grey(), "1 1");
        heap.make(3, 1, false);
        due.is(16, "made black", heap.ofObject(4, 5), 2);
        heap.local(2, 4);
        due.is(16, "to the end", heap.step(3) + " " + heap.house(8), 1 + 1 + 5 + " 0");
        due.is(16, "one went", heap.counted(0) + " " + heap.row(), "1 0:0 4:1 5:2 7:4");
        due.is(16, "counted", heap.counted(3) + " " + heap.counted(1) + " " + heap.counted(6) + " " + heap.counted(7),
                "1 0 12 7");
        due.is(16, "colours without a cycle", heap.ofObject(0, 5) + heap.grey() + heap.unseen(), -1);
        heap.begin();
        due.is(16, "a budget is met", heap.step(4) + " " + heap.house(8), "4 1");
        due.is(16, "what none holds", heap.local(0, -1), 0);
        heap.make(1, 0, false);
        heap.local(1, -1);
        heap.store(4, 0, 4);
        due.is(16, "black ones are kept", heap.step(60) + " " + heap.house(0), 2 + 1 + 1 + 1 + 5 + " 5");
    }

    /** A white one that a local holds alone is found as the roots are looked at again. */
    private static void stepByRoots() {
        Heapkeep heap = new Heapkeep();
        heap.keeper(5);
        heap.make(0, 1, false);
        heap.make(1, 1, false);
        heap.make(2, 2, false);
        heap.store(1, 0, 2);
        heap.store(0, 0, 1);
        heap.local(1, -1);
        heap.local(2, -1);
        heap.begin();
        heap.load(1, 0, 0);
        heap.store(0, 0, -1);
        due.is(16, "the row is empty", heap.step(2) + " " + heap.grey(), "2 ");
        due.is(16, "the roots become grey again", heap.step(1) + " " + heap.grey(), "1 1");
        due.is(16, "it goes on", heap.step(3) + " " + heap.house(8), 2 + 3 + " 1");
        due.is(16, "the end", heap.step(1) + " " + heap.house(8) + heap.counted(5), 1 + 3 + " 00");
    }

    /** What a black one leads to is seen, though none is reached any more. */
    private static void stepEndsByBlack() {
        Heapkeep heap = new Heapkeep();
        heap.keeper(5);
        heap.make(0, 1, false);
        heap.make(1, 1, false);
        heap.make(2, 0, true);
        heap.store(1, 0, 2);
        heap.local(2, -1);
        heap.make(3, 1, false);
        heap.refer(2, 1, 3);
        heap.begin();
        heap.step(2);
        heap.load(3, 1, 0);
        heap.store(0, 0, 2);
        heap.store(1, 0, -1);
        heap.refer(3, 2, 1);
        heap.local(0, -1);
        heap.local(1, -1);
        heap.local(3, -1);
        heap.make(3, 0, false);
        due.is(36, "white", heap.unseen(), "2");
        heap.step(60);
        due.is(16, "all are kept", heap.house(0) + " " + heap.house(8) + " " + heap.waiting(), "7 0 ;");
        due.is(16, "none was lost", heap.counted(4) + heap.counted(5), 0);
        heap.collect(false);
        due.is(13, "till a whole one", heap.waiting() + " " + heap.row(), "4;2 4:2 7:4 11:6");
        Heapkeep soft = new Heapkeep();
        soft.keeper(5);
        soft.make(0, 0, false);
        soft.refer(1, 1, 0);
        soft.make(3, 1, false);
        soft.store(2, 0, 0);
        soft.local(0, -1);
        soft.begin();
        soft.load(0, 2, 0);
        soft.refer(0, 2, 0);
        soft.store(2, 0, -1);
        due.is(36, "held by no field", soft.unseen() + soft.grey() + soft.ofObject(0, 5), "1 20");
        due.is(16, "the end", soft.step(60), 1 + 2 + 1 + 4);
        due.is(16, "what is soft leads", soft.row() + soft.waiting(), "0:0 1:1 3:2 5:3;");
    }

    private static void stepBySoft() {
        Heapkeep heap = new Heapkeep();
        heap.keeper(5);
        heap.make(0, 1, false);
        heap.refer(1, 2, 0);
        heap.refer(2, 1, 0);
        heap.local(0, -1);
        heap.begin();
        due.is(16, "a soft one leads", heap.step(1) + " " + heap.grey(), "1 2 0");
        due.is(16, "a weak one does not", heap.step(2) + " " + heap.grey(), "3 ");
        due.is(16, "the end", heap.step(1) + " " + heap.house(0), "4 3");
        heap.local(1, -1);
        heap.begin();
        due.is(16, "it goes then", heap.step(60) + " " + heap.house(0) + " " + heap.waiting(), "5 1 2;");
    }

    /** What has a last wish is pending, what is cleared is in the queue, what is soft stays. */
    private static void stepEnds() {
        Heapkeep heap = new Heapkeep();
        heap.keeper(5);
        heap.make(0, 1, true);
        heap.make(1, 0, false);
        heap.store(0, 0, 1);
        heap.refer(2, 1, 1);
        heap.refer(3, 3, 1);
        heap.local(0, -1);
        heap.local(1, -1);
        heap.begin();
        due.is(16, "the end", heap.step(60) + " " + heap.waiting(), 2 + 1 + 4 + " 2;0");
        due.is(16, "not moved, not whole", heap.counted(9) + heap.counted(1) + " " + heap.counted(8), "0 1");
        heap.begin();
        heap.finish(-1);
        due.is(16, "kept, for it was grey", heap.step(60) + " " + heap.waiting(), 2 + 2 + 1 + 1 + 4 + " 2;");
        heap.begin();
        due.is(16, "it goes", heap.step(60) + " " + heap.waiting() + " " + heap.counted(0), 2 + 1 + 4 + " 2 3; 2");
    }

    /** What is kept by a wish leads by what is soft, for no cycle is hard. */
    private static void stepEndsBySoft() {
        Heapkeep heap = new Heapkeep();
        heap.keeper(5);
        heap.make(0, 1, true);
        heap.make(1, 0, false);
        heap.refer(2, 2, 1);
        heap.store(0, 0, 2);
        heap.local(0, -1);
        heap.local(1, -1);
        heap.local(2, -1);
        heap.begin();
        due.is(16, "all are kept", heap.step(1) + " " + heap.house(0) + heap.waiting() + heap.ofObject(2, 9), 1 + 3 + " 3;01");
    }

    private static Heapkeep hidden(int store, boolean isRead) {
        Heapkeep heap = new Heapkeep();
        heap.keeper(5);
        heap.barrier(store, isRead);
        heap.make(0, 1, false);
        heap.make(1, 1, false);
        heap.make(2, 0, true);
        heap.store(1, 0, 2);
        heap.local(2, -1);
        heap.begin();
        heap.step(1);
        heap.load(2, 1, 0);
        heap.store(0, 0, 2);
        heap.store(1, 0, -1);
        heap.local(2, -1);
        return heap;
    }

    private static void stepLoses() {
        Heapkeep none = hidden(0, false);
        due.is(16, "white, held by a black one", none.unseen() + none.grey(), 21);
        due.is(16, "the end", none.step(60), 2 + 1 + 3);
        due.is(16, "one is lost", none.counted(4) + " " + none.counted(5), "0 1");
        due.is(16, "and kept all the same", none.shape() + none.waiting(), "01-- 0[2] 0[-] 0[];");
        Heapkeep changed = hidden(1, true);
        changed.barrier(0, false);
        due.is(16, "nothing is lost", changed.step(60) + " " + changed.counted(4) + changed.counted(5), "7 00");
        int[][] barriers = {{1, 0}, {2, 0}, {0, 1}, {1, 1}, {2, 1}};
        for (int[] b : barriers) {
            Heapkeep heap = hidden(b[0], b[1] == 1);
            due.is(17, "the grey ones by " + b[0] + b[1], heap.grey() + heap.unseen(), "1 2");
            heap.step(60);
            due.is(17, "nothing is lost", heap.counted(4) + heap.counted(5), 0);
        }
    }

    private static void barrier() {
        Heapkeep heap = new Heapkeep();
        due.is(17, "store before", heap.barrier(1, false) + " " + heap.barrier(2, true) + " " + heap.barrier(0, true), "0 1 2");
        due.is(17, "told", heap.house(11) + " " + heap.house(12), "0 1");
        due.failsAndChangesNothing(17, "store -1", Due.ARGUMENT, heap, () -> heap.barrier(-1, false));
        due.failsAndChangesNothing(17, "store 3", Due.ARGUMENT, heap, () -> heap.barrier(3, false));
        heap.barrier(1, false);
        heap.keeper(5);
        due.is(17, "they stay", heap.house(11) + " " + heap.house(12), "1 0");
        heap.make(0, 2, false);
        heap.make(1, 0, false);
        heap.make(2, 0, false);
        heap.make(3, 0, false);
        heap.store(0, 0, 1);
        heap.local(1, -1);
        heap.store(0, 1, 2);
        heap.local(2, -1);
        heap.local(3, -1);
        heap.enter();
        due.is(17, "one is grey", heap.begin(), 1);
        heap.store(0, 0, 2);
        due.is(17, "new: what is stored", heap.grey(), "0 2");
        heap.barrier(2, false);
        heap.store(0, 0, 0);
        due.is(17, "old: what stood there is grey already", heap.grey(), "0 2");
        heap.begin();
        heap.store(0, 1, -1);
        due.is(17, "old: what stood there", heap.grey(), "0 2");
        heap.barrier(0, false);
        heap.begin();
        heap.local(0, 0);
        heap.global(1, 0);
        heap.load(0, 0, 0);
        heap.store(0, 1, 0);
        due.is(17, "none", heap.grey(), "0");
    }

    /** A ring of five beneath 0, and a weak one; each is white till it is named or found. */
    private static Heapkeep ring() {
        Heapkeep heap = new Heapkeep();
        heap.keeper(5);
        heap.make(0, 2, false);
        for (int i = 1; i < 5; i++) {
            heap.make(1, 2, false);
            heap.store(i - 1, 0, i);
        }
        heap.refer(2, 1, 4);
        heap.store(4, 0, 5);
        heap.local(1, -1);
        heap.local(2, -1);
        heap.barrier(0, true);
        heap.begin();
        return heap;
    }

    private static void barrierRead() {
        Heapkeep heap = ring();
        heap.local(1, 3);
        due.is(17, "local()", heap.grey(), "0 3");
        heap = ring();
        heap.global(1, 3);
        due.is(17, "global()", heap.grey(), "0 3");
        heap = ring();
        heap.store(4, 1, 3);
        due.is(17, "store(), both", heap.grey(), "0 4 3");
        heap = ring();
        heap.store(4, 0, -1);
        due.is(17, "store(), not what stood there", heap.grey(), "0 4");
        heap = ring();
        heap.barrier(2, true);
        heap.store(4, 0, 2);
        due.is(17, "store(), named, then what stood there", heap.grey(), "0 4 2 5");
        heap = ring();
        heap.barrier(1, false);
        heap.store(4, 0, 2);
        due.is(17, "store(), what is stored alone", heap.grey(), "0 2");
        heap = ring();
        heap.load(1, 2, 0);
        due.is(17, "load(), named and found", heap.grey(), "0 2 3");
        heap = ring();
        heap.load(1, 2, 1);
        due.is(17, "load(), nothing found", heap.grey(), "0 2");
        heap = ring();
        heap.refer(1, 3, 2);
        due.is(17, "refer()", heap.grey() + " " + heap.ofObject(6, 5), "0 2 2");
        heap = ring();
        heap.get(1, 5);
        due.is(17, "get(), named and found", heap.grey(), "0 5 4");
    }

    private static void barrierGet() {
        Heapkeep heap = ring();
        heap.barrier(0, false);
        heap.local(1, 3);
        heap.load(1, 2, 0);
        heap.refer(3, 3, 2);
        due.is(17, "none", heap.grey(), "0");
        heap.get(1, 5);
        due.is(17, "get() found it, without barriers too", heap.grey(), "0 4");
        heap.get(2, 6);
        due.is(17, "a last one finds nothing", heap.grey(), "0 4");
        due.is(17, "told before", heap.barrier(2, false), 0);
        heap.enter();
        heap.finish(0);
        heap.poll();
        due.is(17, "nothing by others", heap.grey(), "0 4");
    }

    private static void guarded() {
        Heapkeep heap = new Heapkeep();
        heap.keeper(5);
        int[][] barriers = {{0, 0}, {1, 0}, {2, 0}, {0, 1}, {2, 1}};
        for (int[] b : barriers) {
            heap.barrier(b[0], b[1] == 1);
            heap.begin();
            due.is(17, "guarded", heap.house(9), b[0] + b[1] > 0 ? 1 : 0);
            heap.barrier(b[0], b[1] == 1);
            due.is(17, "guarded by the same ones", heap.house(9), b[0] + b[1] > 0 ? 1 : 0);
            heap.barrier((b[0] + 1) % 3, b[1] == 1);
            due.is(17, "not by others", heap.house(9), 0);
            heap.barrier(b[0], b[1] == 1);
            due.is(17, "not by those again", heap.house(9), 0);
        }
        heap.begin();
        due.is(17, "guarded anew", heap.house(9), 1);
        heap.barrier(2, false);
        due.is(17, "not without read", heap.house(9), 0);
        heap.begin();
        heap.step(60);
        due.is(17, "not without a cycle", heap.house(8) + heap.house(9), 0);
        due.is(17, "one cycle came to its end", heap.counted(3), 1);
    }

    private static void finish() {
        Heapkeep heap = new Heapkeep();
        due.is(18, "none is pending", heap.finish(-1) + heap.finish(0) + heap.finish(3), -3);
        due.failsAndChangesNothing(18, "slot -2", Due.INDEX, heap, () -> heap.finish(-2));
        due.failsAndChangesNothing(18, "slot 4", Due.INDEX, heap, () -> heap.finish(4));
        heap.make(0, 0, true);
        heap.make(0, 1, true);
        heap.make(0, 0, true);
        heap.collect(false);
        due.is(18, "pending", heap.waiting(), ";0 1");
        heap.enter();
        due.is(18, "nothing is done to a local before", heap.shape(), "0--- ---- 0[]");
        due.is(18, "the first one", heap.finish(3) + " " + heap.waiting() + " " + heap.shape(), "0 ;1 0--- ---1 0[] 0[]");
        due.is(18, "no wish any more", heap.ofObject(0, 7) + " " + heap.ofObject(1, 7), "0 2");
        due.is(18, "the next one", heap.finish(-1) + " " + heap.waiting() + " " + heap.ofObject(1, 6), "1 ; 0");
        due.is(18, "none", heap.finish(3) + " " + heap.localOf(1, 3), "-1 0");
        due.is(18, "it goes", heap.collect(false), 1);
        Heapkeep counts = new Heapkeep();
        counts.keeper(6);
        counts.make(0, 0, true);
        counts.local(0, -1);
        due.is(18, "a wish keeps it", counts.house(0), 1);
        counts.collect(false);
        due.is(18, "its count", counts.ofObject(0, 4), 1);
        due.is(18, "it goes by counts", counts.finish(-1) + " " + counts.ofObject(0, 7) + " " + counts.counted(0), "0 -9 1");
    }

    private static void poll() {
        Heapkeep heap = new Heapkeep();
        due.is(19, "none", heap.poll(), -1);
        heap.make(0, 0, false);
        heap.refer(1, 1, 0);
        heap.refer(2, 3, 0);
        heap.local(0, -1);
        heap.collect(false);
        heap.local(1, -1);
        due.is(19, "queue", heap.waiting() + " " + heap.collect(false), "1 2; 0");
        due.is(19, "the first one", heap.poll() + " " + heap.waiting() + " " + heap.collect(false), "1 2; 1");
        due.is(19, "the next one", heap.poll() + " " + heap.poll() + " " + heap.collect(false), "2 -1 0");
        Heapkeep counts = new Heapkeep();
        counts.keeper(6);
        counts.make(0, 1, false);
        counts.store(0, 0, 0);
        counts.refer(1, 1, 0);
        counts.local(0, -1);
        counts.collect(false);
        counts.local(1, -1);
        due.is(19, "the queue holds it", counts.ofObject(1, 4), 1);
        due.is(19, "it goes by counts", counts.poll() + " " + counts.house(0), "1 0");
    }

    /** Section 6, by each call that can let go. */
    private static void counts() {
        Heapkeep heap = new Heapkeep();
        heap.keeper(6);
        heap.make(0, 2, false);
        heap.make(1, 1, false);
        heap.make(2, 0, false);
        heap.store(0, 0, 1);
        heap.store(1, 0, 2);
        heap.local(1, -1);
        heap.local(2, -1);
        due.is(7, "all are held", heap.house(0), 3);
        due.is(7, "a chain goes", heap.store(0, 0, -1) + " " + heap.row() + " " + heap.counted(0), "1 0:0 2");
        heap.refer(1, 3, 0);
        due.is(5, "a referent stays", heap.local(0, -1) + " " + heap.row(), "0 0:0 3:3");
        due.is(5, "and goes with its reference", heap.local(1, -1) + " " + heap.row(), "3 ");
        heap.make(0, 0, false);
        heap.make(0, 0, false);
        due.is(3, "what a local held goes", heap.row(), "1:5");
        heap.refer(0, 1, 5);
        due.is(4, "a referent stays", heap.row(), "1:5 2:6");
        heap.refer(0, 1, 6);
        due.is(4, "a referent that is a reference", heap.row(), "1:5 2:6 4:7");
        heap.get(1, 7);
        heap.get(0, 6);
        due.is(9, "what a local held goes", heap.row(), "1:5 2:6");
        heap.enter();
        heap.make(0, 1, false);
        heap.store(8, 0, 8);
        heap.load(1, 8, 0);
        heap.load(0, 8, 0);
        due.is(8, "all are held", heap.house(0), 3);
        heap.make(2, 1, false);
        heap.load(2, 9, 0);
        due.is(8, "what a local held goes", heap.house(0) + " " + heap.ofObject(9, 0), "3 -9");
        heap.global(1, -1);
        due.is(6, "what a local held goes", heap.row(), "1:5 4:8");
        heap.leave();
        due.is(11, "a ring stays", heap.row(), "1:5 4:8");
        due.is(13, "a collection finds it", heap.collect(false) + " " + heap.row(), "1 1:5");
    }
}
