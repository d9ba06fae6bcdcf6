/** What each promise does and returns, where there is nothing, one thing, or the last one. */
public final class EdgePromiseTests {
    private static final Due due = new Due("EdgePromiseTests");

    public static void main(String[] args) {
        none();
        byRisingNumbers();
        sizeReturns();
        sizeForgetsAll();
        sizeForgetsObjects();
        makeHolds();
        referHolds();
        localHolds();
        globalHolds();
        storeHolds();
        loadHolds();
        getHolds();
        enterAndLeave();
        keeperReturns();
        collectReturns();
        smallReturns();
        beginReturns();
        stepReturns();
        finishTakesOff();
        pollTakesOff();
        leadsByFields();
        othersGo();
        objectsAnswers();
        fieldReturns();
        localOfReturns();
        rememberedReturns();
        greyReturns();
        houseAnswers();
        soundOfEach();
        due.end();
    }

    private static Heapkeep by(int keeper) {
        Heapkeep heap = new Heapkeep();
        heap.keeper(keeper);
        return heap;
    }

    private static void none() {
        due.sentence("NONE is -1.");
        Heapkeep heap = new Heapkeep();
        heap.size(16);
        heap.make(0, 1, false);
        heap.refer(1, 3, 0);
        due.is(26, "what a local, a field, a plain one's referent hold", heap.localOf(0, 3) + " " + heap.field(0, 0) + " " + heap.ofObject(0, 9), "-1 -1 -1");
        due.is(9, "a last one's referent", heap.get(2, 1), -1);
        due.is(5, "what local(), global() and store() take and tell", heap.local(3, -1) + " " + heap.global(3, -1) + " " + heap.store(0, 0, -1), "-1 -1 -1");
        due.is(19, "poll() and finish()", heap.poll() + " " + heap.finish(-1), "-1 -1");
        heap.make(3, 6, false);
        heap.make(3, 4, false);
        due.is(30, "fits(), colours, how far", heap.fits(1) + " " + heap.ofObject(0, 5) + " " + heap.ofObject(2, 8), "-1 -1 -1");
    }

    private static void byRisingNumbers() {
        due.sentence("Returns SHAPE.");
        due.sentence("X by X is by rising numbers.");
        Heapkeep heap = by(5);
        heap.make(3, 0, false);
        heap.make(1, 0, false);
        heap.enter();
        heap.make(2, 0, false);
        heap.make(0, 0, false);
        heap.begin();
        due.is(23, "frame by frame, local by local", heap.shape() + " " + heap.grey(), "-0-1 2-3- 0[] 0[] 0[] 0[] 1 0 3 2");
    }

    // ---- what a program does

    private static void sizeReturns() {
        due.sentence("Returns SIZE before.");
        Heapkeep heap = new Heapkeep();
        int before = 64;
        for (int cells = 16; cells <= 128; cells++) {
            due.is(2, "the size before", heap.size(cells), before);
            due.is(37, "the size, all free", heap.house(2) + " " + heap.house(5) + " " + heap.house(6), cells + " " + cells + " " + cells);
            before = cells;
        }
    }

    private static void sizeForgetsAll() {
        due.sentence("no OBJECTS (NAMES begin with 0), one frame, KEEPER 0, no BARRIERS, no PICTURE; what was counted is 0");
        for (int keeper = 0; keeper <= 6; keeper++) {
            Heapkeep heap = Twins.rich(keeper);
            heap.size(64);
            due.is(2, "as a new one", Twins.look(heap), Twins.look(new Heapkeep()));
            Heapkeep other = new Heapkeep();
            other.knock();
            due.is(2, "and so it goes on, keeper " + keeper, Twins.aftermath(heap), Twins.aftermath(other));
        }
    }

    /** The same names come to others, of other kinds. */
    private static void sizeForgetsObjects() {
        due.sentence("no OBJECTS (NAMES begin with 0)");
        for (int turn = 0; turn < 2; turn++) {
            Heapkeep heap = by(4);
            for (int name = 0; name < 6; name++) {
                if (name % 2 == turn || name == 0) {
                    heap.make(name % 4, 6, true);
                    for (int field = 0; field < 6; field++) {
                        heap.store(name, field, name);
                    }
                } else {
                    heap.refer(name % 4, 2, name - 1);
                }
            }
            heap.small();
            heap.size(64);
            for (int name = 0; name < 6; name++) {
                if (name % 2 != turn || name == 0) {
                    due.is(3, "a name again", heap.make(name % 4, 6, false), name);
                    due.is(25, "its fields", heap.field(name, 0) + " " + heap.field(name, 1) + " " + heap.field(name, 5), "-1 -1 -1");
                } else {
                    due.is(4, "a name again", heap.refer(name % 4, 1, name - 1), name);
                    due.is(25, "no fields", heap.field(name, 0) + " " + heap.ofObject(name, 1), "-9 0");
                }
                due.is(24, "no wish, no age", heap.ofObject(name, 7) + " " + heap.ofObject(name, 3), "0 0");
                due.is(24, "its referent", heap.ofObject(name, 9), name % 2 != turn || name == 0 ? -1 : name - 1);
                due.is(24, "counted anew", heap.ofObject(name, 4), 1);
            }
        }
    }

    private static void makeHolds() {
        due.sentence("MAKES a PLAIN OBJECT; the LOCAL holds it.");
        for (int slot = 0; slot < 4; slot++) {
            Heapkeep heap = new Heapkeep();
            due.sentence("Returns its NAME.");
            due.is(3, "names", heap.make(slot, 0, false) + " " + heap.make(slot, 6, true), "0 1");
            due.is(3, "the later one alone", heap.localOf(0, slot) + " " + heap.house(7) + " " + heap.house(0), "1 1 2");
            due.is(3, "plain", heap.ofObject(0, 0) + " " + heap.ofObject(1, 0), "0 0");
        }
        due.sentence("A PLAIN one may have a last WISH.");
        Heapkeep heap = new Heapkeep();
        heap.make(0, 0, true);
        heap.make(1, 0, false);
        due.is(24, "with one, without", heap.ofObject(0, 7) + " " + heap.ofObject(1, 7), "1 0");
    }

    private static void referHolds() {
        due.sentence("MAKES a REFERENCE; the LOCAL holds it.");
        for (int slot = 0; slot < 4; slot++) {
            for (int kind = 1; kind <= 3; kind++) {
                Heapkeep heap = new Heapkeep();
                heap.make(slot, 0, false);
                due.is(4, "in the place of its referent", heap.refer(slot, kind, 0) + " " + heap.localOf(0, slot) + " " + heap.ofObject(1, 9), "1 1 0");
                due.is(4, "of a reference", heap.refer(slot, kind, 1) + " " + heap.ofObject(2, 9) + " " + heap.house(7), "2 1 1");
                due.is(24, "kinds", heap.ofObject(1, 0) + " " + heap.ofObject(2, 0) + " " + heap.ofObject(1, 7), kind + " " + kind + " 0");
            }
        }
    }

    private static void localHolds() {
        due.sentence("The LOCAL holds that.");
        Heapkeep heap = new Heapkeep();
        due.sentence("Returns what it held.");
        due.is(5, "nothing, and nothing again", heap.local(0, -1) + " " + heap.local(0, -1), "-1 -1");
        heap.make(0, 0, false);
        heap.make(3, 0, false);
        due.is(5, "the same one", heap.local(0, 0) + " " + heap.localOf(0, 0), "0 0");
        due.is(5, "another one", heap.local(0, 1) + " " + heap.localOf(0, 0), "0 1");
        due.is(5, "that one's last local", heap.local(3, -1) + " " + heap.local(0, -1) + " " + heap.house(7), "1 1 0");
        due.is(5, "and it is there still", heap.house(0), 2);
    }

    private static void globalHolds() {
        due.sentence("The LOCAL of the frame 0 holds that.");
        Heapkeep heap = new Heapkeep();
        due.is(6, "nothing, and nothing again", heap.global(3, -1) + " " + heap.global(3, -1), "-1 -1");
        for (int frames = 2; frames <= 5; frames++) {
            heap.enter();
        }
        heap.make(3, 0, false);
        due.is(6, "of the frame 0, with five frames", heap.global(3, 0) + " " + heap.localOf(0, 3) + " " + heap.localOf(4, 3), "-1 0 0");
        due.is(6, "the same one", heap.global(3, 0) + " " + heap.ofObject(0, 4), "0 2");
        heap.leave();
        due.is(6, "it is held still", heap.global(3, -1) + " " + heap.house(7), "0 0");
    }

    private static void storeHolds() {
        due.sentence("The FIELD holds that.");
        Heapkeep heap = new Heapkeep();
        heap.make(0, 6, false);
        heap.make(1, 0, false);
        for (int field = 0; field < 6; field++) {
            due.is(7, "nothing, nothing again, one, the same one", heap.store(0, field, -1) + " " + heap.store(0, field, 1) + " "
                    + heap.store(0, field, 1) + " " + heap.field(0, field), "-1 -1 1 1");
            due.is(7, "itself", heap.store(0, field, 0) + " " + heap.field(0, field), "1 0");
            due.is(7, "nothing", heap.store(0, field, -1) + " " + heap.field(0, field), "0 -1");
        }
    }

    private static void loadHolds() {
        due.sentence("The LOCAL holds what the FIELD holds.");
        Heapkeep heap = new Heapkeep();
        due.sentence("Returns that.");
        heap.make(0, 6, false);
        heap.make(1, 0, false);
        heap.store(0, 5, 1);
        due.is(8, "nothing, over what it held", heap.load(1, 0, 0) + " " + heap.localOf(0, 1), "-1 -1");
        due.is(8, "the last field, to the last local", heap.load(3, 0, 5) + " " + heap.localOf(0, 3), "1 1");
        due.is(8, "over the object itself", heap.load(0, 0, 5) + " " + heap.localOf(0, 0) + " " + heap.house(7), "1 1 1");
    }

    private static void getHolds() {
        due.sentence("The LOCAL holds its REFERENT (NONE, if that of a LAST one is asked).");
        for (int kind = 1; kind <= 3; kind++) {
            Heapkeep heap = new Heapkeep();
            heap.make(0, 0, false);
            heap.refer(1, kind, 0);
            heap.local(0, -1);
            int due1 = kind == 3 ? -1 : 0;
            due.is(9, "what none reached", heap.get(0, 1) + " " + heap.localOf(0, 0) + " " + heap.house(7), due1 + " " + due1 + " " + (kind == 3 ? 1 : 2));
            due.is(9, "over the reference itself", heap.get(1, 1) + " " + heap.localOf(0, 1) + " " + heap.house(7), due1 + " " + due1 + " " + (kind == 3 ? 0 : 1));
        }
    }

    private static void enterAndLeave() {
        due.sentence("A frame comes.");
        Heapkeep heap = new Heapkeep();
        due.sentence("Returns how many there are then.");
        for (int times = 0; times < 3; times++) {
            due.is(10, "up", heap.enter() + " " + heap.enter() + " " + heap.enter() + " " + heap.enter(), "2 3 4 5");
            due.is(11, "down", heap.leave() + " " + heap.leave() + " " + heap.leave() + " " + heap.leave(), "4 3 2 1");
        }
    }

    // ---- keepers

    private static void keeperReturns() {
        due.sentence("It is LET.");
        due.sentence("Returns the KEEPER before; -9.");
        Heapkeep heap = new Heapkeep();
        heap.size(16);
        heap.make(0, 6, false);
        heap.make(1, 6, false);
        due.is(12, "14 cells have no room in 8, nor in 12", heap.keeper(2) + " " + heap.keeper(4) + " " + heap.keeper(3) + " " + heap.keeper(3),
                "-9 -9 0 3");
    }

    private static void collectReturns() {
        due.sentence("Returns how many OBJECTS went.");
        for (int keeper = 0; keeper <= 5; keeper++) {
            Heapkeep heap = by(keeper);
            for (int many = 0; many <= 8; many++) {
                for (int i = 0; i < many; i++) {
                    heap.make(i % 4, 0, false);
                    heap.local(i % 4, -1);
                }
                due.is(13, "so many went", heap.collect(many % 2 == 0) + " " + heap.house(0), many + " 0");
            }
        }
    }

    private static void smallReturns() {
        due.sentence("Returns how many OBJECTS went; -9.");
        for (int keeper = 0; keeper <= 6; keeper++) {
            Heapkeep heap = by(keeper);
            heap.make(0, 0, false);
            heap.make(0, 0, false);
            due.is(14, "by keeper " + keeper, heap.small(), keeper == 4 ? 1 : -9);
            heap.local(0, -1);
            due.is(14, "again", heap.small() + " " + heap.counted(2), keeper == 4 ? "1 2" : "-9 0");
        }
    }

    private static void beginReturns() {
        due.sentence("A CYCLE begins (one that is going on is broken off). It is LET: with the KEEPER 5 alone.");
        for (int keeper = 0; keeper <= 6; keeper++) {
            due.sentence("Returns how many are GREY; -9.");
            Heapkeep heap = by(keeper);
            due.is(15, "none by keeper " + keeper, heap.begin(), keeper == 5 ? 0 : -9);
            heap.make(0, 0, false);
            heap.make(3, 0, false);
            due.is(15, "two by keeper " + keeper, heap.begin() + " " + heap.house(8), keeper == 5 ? "2 1" : "-9 0");
        }
    }

    private static void stepReturns() {
        due.sentence("Returns the work; -9.");
        for (int keeper = 0; keeper <= 6; keeper++) {
            Heapkeep heap = by(keeper);
            due.is(16, "without a cycle", heap.step(1) + " " + heap.step(60) + " " + heap.counted(6), "-9 -9 0");
            heap.begin();
            due.is(16, "in one", heap.step(60) + " " + heap.counted(6), keeper == 5 ? "1 1" : "-9 0");
        }
    }

    private static void finishTakesOff() {
        due.sentence("PENDING is a row of OBJECTS whose last WISH is to be heard.");
        for (int slot = -1; slot <= 3; slot++) {
            Heapkeep heap = new Heapkeep();
            heap.make(0, 0, true);
            heap.make(0, 0, true);
            heap.local(0, -1);
            due.sentence("The first one that is PENDING is taken off; it has no last WISH any more; the LOCAL (if one is told) holds it.");
            due.is(18, "none yet", heap.finish(slot) + heap.shape(), "-1----");
            heap.collect(false);
            due.is(18, "the first one", heap.finish(slot) + heap.waiting() + heap.ofObject(0, 7) + heap.ofObject(1, 7), "0;102");
            due.is(18, "a local that is told", heap.shape(), slot < 0 ? "----" : "----".substring(0, slot) + "0" + "---".substring(slot) + " 0[]");
            due.is(18, "the last one", heap.finish(slot) + heap.waiting() + heap.house(7), "1;" + (slot < 0 ? 0 : 1));
            due.is(18, "none any more: the local stays", heap.finish(slot) + heap.waiting() + heap.house(7), "-1;" + (slot < 0 ? 0 : 1));
        }
    }

    private static void pollTakesOff() {
        due.sentence("The first REFERENCE is taken off the QUEUE.");
        Heapkeep heap = new Heapkeep();
        due.is(19, "none yet", heap.poll(), -1);
        heap.make(0, 0, false);
        for (int slot = 1; slot <= 3; slot++) {
            heap.refer(slot, 1, 0);
        }
        heap.local(0, -1);
        heap.collect(false);
        due.is(19, "one after the other", heap.poll() + heap.waiting() + heap.poll() + heap.waiting() + heap.poll() + heap.waiting(), "12 3;23;3;");
        due.is(19, "none any more, and they are there still", heap.poll() + " " + heap.house(7), "-1 3");
    }

    private static void leadsByFields() {
        due.sentence("LEADS by FIELDS: from an OBJECT by the numbers of its FIELDS");
        Heapkeep heap = by(5);
        heap.make(0, 6, false);
        for (int field = 5; field >= 0; field--) {
            int name = heap.make(1, 0, false);
            heap.store(0, field, name);
        }
        heap.local(1, -1);
        heap.begin();
        heap.step(1);
        due.is(35, "by numbers, not by names", heap.grey(), "6 5 4 3 2 1");
    }

    private static void othersGo() {
        due.sentence("A WHOLE collection.");
        due.sentence("(f) All others go.");
        Heapkeep heap = new Heapkeep();
        heap.make(0, 1, false);
        for (int name = 1; name <= 9; name++) {
            heap.make(1, 1, false);
            heap.store(name, 0, name - 1);
            heap.local(0, name);
        }
        heap.refer(2, 1, 9);
        heap.refer(2, 3, 9);
        heap.local(1, 5);
        heap.local(0, -1);
        due.is(13, "four of a chain, and a reference that is not held", heap.collect(false) + " " + heap.row() + " " + heap.waiting(),
                "5 0:0 2:1 4:2 6:3 8:4 10:5 22:11 11;");
    }

    // ---- what is asked

    private static void objectsAnswers() {
        due.sentence("0 KIND, 1 how many FIELDS, 2 ADDRESS, 3 AGE, 4 COUNT, 5 colour (NONE without a CYCLE), 6 1 if it is REACHED, otherwise 0");
        Heapkeep heap = by(4);
        heap.make(0, 6, true);
        heap.make(3, 0, false);
        heap.refer(1, 3, 1);
        heap.store(0, 5, 2);
        heap.local(1, -1);
        heap.small();
        int[][] all = {{0, 6, 0, 1, 1, -1, 1, 1, 0, -1, 1}, {0, 0, 7, 1, 1, -1, 1, 0, 0, -1, 1}, {3, 0, 8, 1, 1, -1, 1, 0, 1, 1, 1}};
        for (int name = 0; name < 3; name++) {
            for (int what = 0; what <= 10; what++) {
                due.is(24, "ofObject(" + name + ", " + what + ")", heap.ofObject(name, what), all[name][what]);
            }
        }
        due.sentence("10 1 if it is YOUNG, otherwise 0 (with another KEEPER than 4: 0)");
        for (int kind = 0; kind <= 6; kind++) {
            Heapkeep one = by(kind);
            one.make(0, 0, false);
            due.is(24, "at the cell 0 by keeper " + kind, one.ofObject(0, 2) + " " + one.ofObject(0, 10), kind == 4 ? "0 1" : "0 0");
        }
    }

    private static void fieldReturns() {
        due.sentence("Returns what it holds (NONE); -9, if it is gone, or has no such FIELD.");
        Heapkeep heap = new Heapkeep();
        heap.make(0, 2, false);
        heap.store(0, 1, 0);
        due.is(25, "none, itself, no such field", heap.field(0, 0) + " " + heap.field(0, 1) + " " + heap.field(0, 2) + " " + heap.field(0, 5), "-1 0 -9 -9");
        heap.local(0, -1);
        due.is(25, "not reached", heap.field(0, 1), 0);
        heap.collect(false);
        due.is(25, "gone", heap.field(0, 0) + " " + heap.field(0, 1) + " " + heap.field(0, 5), "-9 -9 -9");
    }

    private static void localOfReturns() {
        due.sentence("Returns what it holds (NONE).");
        Heapkeep heap = new Heapkeep();
        for (int slot = 0; slot < 4; slot++) {
            due.is(26, "none, then one", heap.localOf(0, slot) + " " + heap.make(slot, 0, false) + " " + heap.localOf(0, slot), "-1 " + slot + " " + slot);
        }
        heap.enter();
        for (int slot = 0; slot < 4; slot++) {
            due.is(26, "each of its frame", heap.localOf(0, slot) + " " + heap.localOf(1, slot), slot + " -1");
        }
    }

    private static void rememberedReturns() {
        due.sentence("Returns those that are REMEMBERED, by rising NAMES, with a blank between two; \"\" with another KEEPER than 4.");
        Heapkeep heap = new Heapkeep();
        for (int slot = 3; slot >= 0; slot--) {
            heap.make(slot, 1, false);
        }
        heap.keeper(4);
        due.is(34, "none", heap.remembered(), "");
        heap.enter();
        heap.make(0, 1, false);
        StringBuilder names = new StringBuilder();
        for (int name = 0; name < 4; name++) {
            heap.store(name, 0, 4);
            names.append(name == 0 ? "" : " ").append(name);
            due.is(34, "one more", heap.remembered(), names.toString());
        }
        heap.small();
        heap.small();
        due.is(34, "none once it is old", heap.remembered() + heap.ofObject(4, 10), 0);
    }

    private static void greyReturns() {
        due.sentence("Returns the row of GREY ones, by NAMES, with a blank between two; \"\" without a CYCLE.");
        for (int keeper = 0; keeper <= 6; keeper++) {
            Heapkeep heap = by(keeper);
            heap.make(3, 0, false);
            heap.make(1, 0, false);
            due.is(35, "without a cycle", heap.grey(), "");
            heap.begin();
            due.is(35, "by keeper " + keeper, heap.grey(), keeper == 5 ? "1 0" : "");
        }
    }

    private static void houseAnswers() {
        due.sentence("8 1 in a CYCLE, otherwise 0, 9 1 if it is GUARDED, otherwise 0, 10 the HALF, 11 STORE, 12 1 if there is READ, otherwise 0");
        for (int keeper = 0; keeper <= 6; keeper++) {
            Heapkeep heap = by(keeper);
            due.is(37, "at first", heap.house(3) + " " + heap.house(8) + heap.house(9) + heap.house(10) + heap.house(11) + heap.house(12), keeper + " 00000");
            heap.barrier(1, true);
            heap.collect(false);
            heap.begin();
            due.is(37, "by keeper " + keeper, "" + heap.house(8) + heap.house(9) + heap.house(10) + heap.house(11) + heap.house(12),
                    keeper == 5 ? "11011" : keeper == 2 ? "00111" : "00011");
        }
    }

    private static void soundOfEach() {
        due.sentence("no two OBJECTS have a CELL both, and all lie within SIZE");
        Heapkeep full = new Heapkeep();
        full.size(16);
        full.make(0, 6, false);
        full.make(1, 6, false);
        full.make(2, 1, false);
        due.is(40, "all is full", full.isSound() + full.free(), "true");
        due.sentence("LOCALS, FIELDS, REFERENTS, the QUEUE and PENDING hold OBJECTS that are there");
        for (int keeper = 0; keeper <= 6; keeper++) {
            Heapkeep heap = Twins.rich(keeper);
            due.is(40, "something of all", heap.isSound(), true);
            heap.collect(true);
            due.is(40, "cleared", heap.isSound(), true);
            heap.back();
            due.is(40, "back", heap.isSound(), true);
        }
        due.sentence("those that are REACHED, found by going through all FIELDS again and again till nothing new comes, are as many as told");
        Heapkeep chain = new Heapkeep();
        chain.size(128);
        for (int name = 0; name < 64; name++) {
            chain.make(1, 1, false);
            if (name > 0) {
                chain.store(name, 0, name - 1);
            }
            chain.local(0, name);
        }
        due.is(40, "64 in a row, the last one first", chain.isSound() + " " + chain.house(7), "true 64");
        due.sentence("by the KEEPER 6 none that has to go is there");
        chain.keeper(6);
        chain.local(1, -1);
        chain.local(0, -1);
        due.is(40, "all went", chain.isSound() + " " + chain.house(0), "true 0");
        Heapkeep other = by(0);
        other.make(0, 0, false);
        other.local(0, -1);
        due.is(40, "with another keeper they may be there", other.isSound() + " " + other.ofObject(0, 4), "true 0");
    }
}
