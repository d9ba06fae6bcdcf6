/**
 * What is refused, by an exception or by -9, and what is asked: each leaves everything as it was (what was counted
 * and the picture, too), as a twin shows to which it was not done.
 */
public final class EdgeRefusalTests {
    private static final Due due = new Due("EdgeRefusalTests");

    public static void main(String[] args) {
        for (int keeper = 0; keeper <= 6; keeper++) {
            makeWithoutRoom(keeper);
            referWithoutRoom(keeper);
            severalOfMake(keeper);
            severalOfRefer(keeper);
            severalOfOthers(keeper);
            notReached(keeper);
            noSuchField(keeper);
            noReference(keeper);
            frames(keeper);
            back(keeper);
            notLetByKeeper(keeper);
            notLetWithoutCycle(keeper);
            notLetWithoutPicture(keeper);
            asks(keeper);
            asksOfObjects(keeper);
        }
        keeperWithoutRoom();
        notLetButWrong();
        due.end();
    }

    // ---- heaps

    /** 18 cells, all full; 2 would become pending, 3 would go, and 0 by a hard one: 6 cells would be free. */
    private static Heapkeep full(int keeper) {
        Heapkeep heap = new Heapkeep();
        heap.size(keeper == 2 ? 36 : keeper == 4 ? 24 : 18);
        heap.keeper(keeper == 4 ? 0 : keeper);
        heap.make(0, 1, false);
        heap.refer(1, 2, 0);
        heap.make(0, 0, true);
        heap.make(0, 3, false);
        heap.refer(2, 1, 3);
        heap.make(3, 6, false);
        heap.local(0, -1);
        heap.keep();
        heap.enter();
        if (keeper == 4) {
            heap.keeper(4);
            heap.make(2, 5, false);
        }
        heap.begin();
        heap.step(1);
        return heap;
    }

    /** All are reached, and one cell is free where a new one may lie. */
    private static Heapkeep tight(int keeper) {
        Heapkeep heap = new Heapkeep();
        heap.size(keeper == 2 ? 32 : keeper == 4 ? 20 : 16);
        heap.keeper(keeper == 4 ? 0 : keeper);
        heap.make(0, 6, false);
        heap.make(1, 6, false);
        heap.make(2, 0, false);
        if (keeper == 4) {
            heap.keeper(4);
            heap.make(3, 3, false);
        }
        heap.begin();
        return heap;
    }

    /** 0 and 1 are reached; 2 is gone; 3 is in the queue alone, 4 pending alone, 5 held softly alone; 6 is reached. */
    private static Heapkeep scattered(int keeper) {
        Heapkeep heap = new Heapkeep();
        heap.keeper(keeper);
        heap.make(0, 1, false);
        heap.make(1, 2, false);
        heap.make(2, 0, false);
        heap.refer(3, 1, 2);
        heap.local(2, -1);
        heap.make(2, 3, true);
        heap.local(2, -1);
        heap.collect(false);
        heap.local(3, -1);
        heap.make(2, 1, false);
        heap.refer(3, 2, 5);
        heap.local(2, -1);
        heap.keep();
        heap.begin();
        return heap;
    }

    private static Twins.Maker maker(String which, int keeper) {
        switch (which) {
            case "full": return () -> full(keeper);
            case "tight": return () -> tight(keeper);
            case "scattered": return () -> scattered(keeper);
            default: return () -> Twins.rich(keeper);
        }
    }

    // ---- exceptions

    private static void makeWithoutRoom(int keeper) {
        due.sentence("that is NO ROOM (all is as it was ahead of the call then, what was counted, too)");
        due.is(3, "4 cells become free, then 2 by a hard one", Twins.answer(full(keeper), h -> {
            h.make(0, 3, false);
            String first = h.counted(1) + " " + h.counted(0) + " " + h.waiting();
            h.make(1, 1, false);
            return first + ", " + h.counted(1) + " " + h.counted(0) + " " + h.waiting();
        }), "1 1 4;2, 3 2 4 1;2");
        due.sentence("Throws `IllegalStateException` if there is NO ROOM");
        due.refused(3, "7 cells", Due.STATE, maker("full", keeper), h -> h.make(0, 6, false));
        due.refused(3, "7 cells, with a wish", Due.STATE, maker("full", keeper), h -> h.make(3, 6, true));
        due.refused(3, "2 cells", Due.STATE, maker("tight", keeper), h -> h.make(3, 1, false));
    }

    private static void referWithoutRoom(int keeper) {
        due.sentence("Throws `IllegalStateException` if the OBJECT is not REACHED, or there is NO ROOM");
        for (int kind = 1; kind <= 3; kind++) {
            int ofKind = kind;
            due.refused(4, "2 cells", Due.STATE, maker("tight", keeper), h -> h.refer(3, ofKind, 0));
        }
        due.is(3, "but one has room", Twins.answer(tight(keeper), h -> h.make(3, 0, false)), keeper == 4 ? 4 : 3);
    }

    private static void severalOfMake(int keeper) {
        due.sentence("If several exceptions apply, the one that is named first is thrown.");
        due.refused(3, "slot and fields", Due.INDEX, maker("rich", keeper), h -> h.make(4, 7, false));
        due.refused(3, "slot and fields", Due.INDEX, maker("rich", keeper), h -> h.make(-1, -1, false));
        due.refused(3, "slot and no room", Due.INDEX, maker("full", keeper), h -> h.make(-1, 6, false));
        due.refused(3, "fields and no room", Due.ARGUMENT, maker("full", keeper), h -> h.make(0, 7, false));
        due.refused(3, "all three", Due.INDEX, maker("full", keeper), h -> h.make(4, 7, false));
    }

    private static void severalOfRefer(int keeper) {
        due.sentence("If several exceptions apply, the one that is named first is thrown.");
        due.refused(4, "slot and kind", Due.INDEX, maker("rich", keeper), h -> h.refer(4, 0, 0));
        due.refused(4, "slot and not reached", Due.INDEX, maker("rich", keeper), h -> h.refer(-1, 1, 3));
        due.refused(4, "object and kind", Due.INDEX, maker("rich", keeper), h -> h.refer(0, 4, 9));
        due.refused(4, "object and kind", Due.INDEX, maker("rich", keeper), h -> h.refer(0, 0, -1));
        due.refused(4, "kind and not reached", Due.ARGUMENT, maker("rich", keeper), h -> h.refer(0, 4, 3));
        due.refused(4, "kind and gone", Due.ARGUMENT, maker("rich", keeper), h -> h.refer(0, 0, 1));
        due.refused(4, "slot and no room", Due.INDEX, maker("tight", keeper), h -> h.refer(4, 1, 0));
        due.refused(4, "object and no room", Due.INDEX, maker("tight", keeper), h -> h.refer(3, 1, 9));
        due.refused(4, "kind and no room", Due.ARGUMENT, maker("tight", keeper), h -> h.refer(3, 0, 0));
        due.refused(4, "all of them", Due.INDEX, maker("tight", keeper), h -> h.refer(4, 0, 9));
    }

    /** 1 is gone, 3 is not reached, 2 and 5 are references, 9 never was. */
    private static void severalOfOthers(int keeper) {
        due.sentence("If several exceptions apply, the one that is named first is thrown.");
        Twins.Maker rich = maker("rich", keeper);
        due.refused(5, "slot and gone", Due.INDEX, rich, h -> h.local(4, 1));
        due.refused(5, "slot and not reached", Due.INDEX, rich, h -> h.local(-1, 3));
        due.refused(6, "slot and gone", Due.INDEX, rich, h -> h.global(4, 1));
        due.refused(6, "slot and not reached", Due.INDEX, rich, h -> h.global(-1, 3));
        due.refused(7, "an object that never was, a value that is gone", Due.INDEX, rich, h -> h.store(9, 0, 1));
        due.refused(7, "an object that is gone, a value that never was", Due.INDEX, rich, h -> h.store(1, 0, 9));
        due.refused(7, "field and gone", Due.INDEX, rich, h -> h.store(1, 6, 0));
        due.refused(7, "field and a value not reached", Due.INDEX, rich, h -> h.store(0, -1, 3));
        due.refused(7, "no such field and a value that never was", Due.INDEX, rich, h -> h.store(5, 0, -2));
        due.refused(8, "slot and gone", Due.INDEX, rich, h -> h.load(4, 1, 0));
        due.refused(8, "field and not reached", Due.INDEX, rich, h -> h.load(0, 3, 6));
        due.refused(8, "slot and no such field", Due.INDEX, rich, h -> h.load(-1, 5, 0));
        due.refused(9, "slot and no reference", Due.INDEX, rich, h -> h.get(4, 0));
        due.refused(9, "slot and gone", Due.INDEX, rich, h -> h.get(-1, 1));
        due.refused(24, "object and what", Due.INDEX, rich, h -> h.ofObject(9, 11));
        due.refused(24, "object and what", Due.INDEX, rich, h -> h.ofObject(-1, -1));
        due.refused(26, "frame and slot", Due.INDEX, rich, h -> h.localOf(2, 4));
    }

    private static void notReached(int keeper) {
        due.sentence("Acts name OBJECTS that are REACHED alone.");
        Twins.Maker maker = maker("scattered", keeper);
        String[] who = {"gone", "in the queue alone", "pending alone", "held softly alone"};
        for (int i = 0; i < who.length; i++) {
            int name = 2 + i;
            due.is(24, who[i], Twins.answer(maker.make(), h -> h.ofObject(name, 6)), i == 0 ? -9 : 0);
            due.sentence("Throws `IllegalStateException` if the OBJECT is not REACHED, or there is NO ROOM");
            due.refused(4, who[i], Due.STATE, maker, h -> h.refer(0, 1, name));
            due.sentence("Throws `IllegalStateException` if it is not REACHED");
            due.refused(5, who[i], Due.STATE, maker, h -> h.local(0, name));
            due.refused(6, who[i], Due.STATE, maker, h -> h.global(0, name));
            due.sentence("Throws `IllegalStateException` if one of them is not REACHED, or the first one has no such FIELD");
            due.refused(7, who[i], Due.STATE, maker, h -> h.store(name, 0, -1));
            due.refused(7, who[i] + ", a value", Due.STATE, maker, h -> h.store(0, 0, name));
            due.refused(7, who[i] + ", both", Due.STATE, maker, h -> h.store(name, 0, name));
            due.sentence("Throws `IllegalStateException` if it is not REACHED, or has no such FIELD");
            due.refused(8, who[i], Due.STATE, maker, h -> h.load(0, name, 0));
            due.sentence("Throws `IllegalStateException` if it is not REACHED, or is no REFERENCE");
            due.refused(9, who[i], Due.STATE, maker, h -> h.get(0, name));
        }
        due.is(5, "what is reached", Twins.answer(maker.make(), h -> h.local(0, 1) + " " + h.local(2, 6)), "0 -1");
    }

    private static void noSuchField(int keeper) {
        due.sentence("Throws `IllegalStateException` if one of them is not REACHED, or the first one has no such FIELD");
        Twins.Maker maker = maker("scattered", keeper);
        due.refused(7, "of one with one", Due.STATE, maker, h -> h.store(0, 1, 1));
        due.refused(7, "of one with two", Due.STATE, maker, h -> h.store(1, 2, -1));
        due.refused(7, "of a reference", Due.STATE, maker, h -> h.store(6, 0, 0));
        due.sentence("Throws `IllegalStateException` if it is not REACHED, or has no such FIELD");
        due.refused(8, "of one with one", Due.STATE, maker, h -> h.load(0, 0, 1));
        due.refused(8, "of one with two", Due.STATE, maker, h -> h.load(0, 1, 5));
        due.refused(8, "of a reference", Due.STATE, maker, h -> h.load(0, 6, 0));
    }

    private static void noReference(int keeper) {
        due.sentence("Throws `IllegalStateException` if it is not REACHED, or is no REFERENCE");
        due.refused(9, "a plain one", Due.STATE, maker("scattered", keeper), h -> h.get(0, 0));
    }

    private static void frames(int keeper) {
        due.sentence("Throws `IllegalStateException` if there are 5");
        due.refused(10, "a sixth frame", Due.STATE, () -> {
            Heapkeep heap = scattered(keeper);
            for (int frames = 2; frames <= 5; frames++) {
                heap.enter();
                heap.local(frames % 4, 1);
            }
            return heap;
        }, h -> h.enter());
        due.sentence("Throws `IllegalStateException` if there is one");
        due.refused(11, "the last frame", Due.STATE, maker("scattered", keeper), h -> h.leave());
    }

    private static void back(int keeper) {
        due.sentence("Throws `IllegalStateException` if there is no PICTURE");
        due.refused(21, "no picture", Due.STATE, maker("tight", keeper), h -> h.back());
        due.refused(21, "no picture behind size()", Due.STATE, () -> {
            Heapkeep heap = Twins.rich(keeper);
            heap.size(48);
            return heap;
        }, h -> h.back());
    }

    // ---- -9

    private static void notLetByKeeper(int keeper) {
        due.sentence("Some calls are LET, but can not be done: they tell -9, and change nothing.");
        for (String which : new String[] {"rich", "full", "scattered"}) {
            if (keeper != 4) {
                due.is(14, "small() by keeper " + keeper, due.changingNothing(14, "small()", maker(which, keeper), h -> h.small()), -9);
            }
            if (keeper != 5) {
                due.is(15, "begin() by keeper " + keeper, due.changingNothing(15, "begin()", maker(which, keeper), h -> h.begin()), -9);
            }
        }
    }

    private static void notLetWithoutCycle(int keeper) {
        due.sentence("It is LET: in a CYCLE alone.");
        Twins.Maker maker = () -> {
            Heapkeep heap = Twins.rich(keeper);
            heap.collect(false);
            return heap;
        };
        due.is(16, "the least budget", due.changingNothing(16, "step()", maker, h -> h.step(1)), -9);
        due.is(16, "the greatest budget", due.changingNothing(16, "step()", maker, h -> h.step(60)), -9);
    }

    private static void notLetWithoutPicture(int keeper) {
        due.sentence("-9 without a PICTURE");
        due.is(22, "same()", due.changingNothing(22, "same()", maker("tight", keeper), h -> h.same()), -9);
    }

    /** From 9 cells on there is no room in a half of 17, from 14 on none behind the young room of 17. */
    private static void keeperWithoutRoom() {
        due.sentence("it can not be done if they have no room there (with the KEEPER 2: in the half 0)");
        int[] keepers = {0, 1, 3, 5, 6};
        for (int keeper : keepers) {
            for (int cells = 8; cells <= 17; cells++) {
                int all = cells;
                Twins.Maker maker = () -> filled(keeper, all);
                String half = Twins.answer(maker.make(), h -> h.keeper(2));
                due.is(12, cells + " cells in a half", half, cells <= 8 ? keeper : -9);
                if (cells > 8) {
                    due.is(12, "no half", due.changingNothing(12, "keeper(2)", maker, h -> h.keeper(2)), -9);
                }
                String young = Twins.answer(maker.make(), h -> h.keeper(4));
                due.is(12, cells + " cells behind the young room", young, cells <= 13 ? keeper : -9);
                if (cells > 13) {
                    due.is(12, "no old room", due.changingNothing(12, "keeper(4)", maker, h -> h.keeper(4)), -9);
                }
                for (int other : keepers) {
                    due.is(12, "room for all", Twins.answer(maker.make(), h -> h.keeper(other)), keeper);
                }
            }
        }
    }

    /** A heap of 17 cells, of which so many are full; in a cycle, with the keeper 5. */
    private static Heapkeep filled(int keeper, int cells) {
        Heapkeep heap = new Heapkeep();
        heap.size(17);
        heap.keeper(keeper);
        heap.make(0, 6, false);
        for (int left = cells - 7; left > 0; left -= 3) {
            heap.make(1 + left % 3, Math.min(left, 3) - 1, false);
            if (left > 3) {
                heap.store(0, left % 6, heap.localOf(0, 1 + left % 3));
            }
        }
        heap.begin();
        heap.step(2);
        return heap;
    }

    private static void notLetButWrong() {
        due.sentence("A method that throws an exception changes nothing.");
        due.refused(12, "a keeper that is none, where there is no room", Due.ARGUMENT, () -> filled(3, 17), h -> h.keeper(7));
        due.refused(16, "a budget that is none, without a cycle", Due.ARGUMENT, () -> filled(3, 17), h -> h.step(0));
        due.refused(16, "a budget that is none, without a cycle", Due.ARGUMENT, () -> filled(3, 17), h -> h.step(61));
        due.refused(18, "a slot that is none, and none pending", Due.INDEX, () -> filled(3, 17), h -> h.finish(4));
        due.refused(18, "a slot that is none, and none pending", Due.INDEX, () -> filled(3, 17), h -> h.finish(-2));
        due.refused(24, "what is not asked, of one that is gone", Due.ARGUMENT, () -> scattered(0), h -> h.ofObject(2, 11));
        due.refused(25, "a field that is none, of one that is gone", Due.INDEX, () -> scattered(0), h -> h.field(2, 6));
        due.refused(30, "too many cells, and no room", Due.ARGUMENT, () -> filled(3, 17), h -> h.fits(8));
    }

    // ---- what is asked

    private static void asks(int keeper) {
        due.sentence("What one asks for changes nothing.");
        for (String which : new String[] {"rich", "full", "scattered"}) {
            Twins.Maker maker = maker(which, keeper);
            due.changingNothing(22, "same()", maker, h -> h.same());
            due.changingNothing(23, "shape()", maker, h -> h.shape());
            due.changingNothing(26, "localOf()", maker, h -> h.localOf(0, 0) + h.localOf(0, 3));
            due.changingNothing(28, "row()", maker, h -> h.row());
            due.changingNothing(29, "free()", maker, h -> h.free());
            due.changingNothing(30, "fits()", maker, h -> h.fits(1) + h.fits(7));
            due.changingNothing(31, "would()", maker, h -> h.would(false));
            due.changingNothing(31, "would()", maker, h -> h.would(true));
            due.changingNothing(33, "waiting()", maker, h -> h.waiting());
            due.changingNothing(34, "remembered()", maker, h -> h.remembered());
            due.changingNothing(35, "grey()", maker, h -> h.grey());
            due.changingNothing(36, "unseen()", maker, h -> h.unseen());
            due.changingNothing(40, "isSound()", maker, h -> h.isSound());
            due.changingNothing(41, "digest()", maker, h -> h.digest());
            for (int asked = 0; asked <= 12; asked++) {
                int what = asked;
                due.changingNothing(37, "house()", maker, h -> h.house(what));
                due.changingNothing(38, "counted()", maker, h -> h.counted(what % 10));
                due.changingNothing(32, "cost()", maker, h -> h.cost(what % 7));
            }
        }
    }

    private static void asksOfObjects(int keeper) {
        due.sentence("What one asks for changes nothing.");
        Twins.Maker maker = maker("scattered", keeper);
        for (int name = 0; name <= 6; name++) {
            int object = name;
            due.changingNothing(27, "path()", maker, h -> h.path(object));
            for (int asked = 0; asked <= 10; asked++) {
                int what = asked;
                due.changingNothing(24, "ofObject()", maker, h -> h.ofObject(object, what));
                due.changingNothing(25, "field()", maker, h -> h.field(object, what % 6));
            }
        }
    }
}
