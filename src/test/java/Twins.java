/** Two heaps made by the same calls: what is done to one of them alone shows at once, or later on. */
final class Twins {
    interface Maker {
        Heapkeep make();
    }

    interface Act {
        Object on(Heapkeep heap);
    }

    private Twins() {
    }

    /** The answer, or the very class that was thrown: the machine's own are classes below those due. */
    static String answer(Heapkeep heap, Act act) {
        try {
            return String.valueOf(act.on(heap));
        } catch (RuntimeException e) {
            return "throws " + e.getClass().getName();
        }
    }

    /** All that can be asked: the digest asks for each number, and measures just how long texts are. */
    static String look(Heapkeep heap) {
        return heap.digest() + "|" + heap.shape() + "|" + heap.row() + "|" + heap.free() + "|" + heap.waiting()
                + "|" + heap.remembered() + "|" + heap.grey() + "|" + heap.unseen()
                + "|" + heap.would(false) + "|" + heap.would(true);
    }

    /** What can not be asked shows by what comes of it: the picture, knocks, guards. */
    static String aftermath(Heapkeep heap) {
        Act[] acts = {
            h -> h.knock(), h -> h.step(1), h -> h.house(9), h -> h.make(1, 2, true), h -> h.refer(0, 2, h.localOf(0, 0)),
            h -> h.poll(), h -> h.finish(2), h -> h.step(2), h -> h.small(), h -> h.begin(), h -> h.store(0, 0, -1),
            h -> look(h), h -> h.collect(false), h -> look(h), h -> h.back(), h -> h.same(), h -> look(h),
            h -> h.step(60), h -> h.collect(true), h -> look(h), h -> h.back(), h -> h.leave(), h -> look(h)};
        StringBuilder all = new StringBuilder();
        for (Act act : acts) {
            all.append(answer(heap, act)).append("; ");
        }
        return all.toString();
    }

    /** A heap with something of all: queue, pending, a picture, frames, and what is to go; by that keeper. */
    static Heapkeep rich(int keeper) {
        Heapkeep heap = new Heapkeep();
        heap.size(48);
        heap.keeper(keeper);
        heap.barrier(1, true);
        heap.make(0, 2, true);
        heap.make(1, 0, false);
        heap.refer(2, 1, 1);
        heap.make(3, 1, true);
        heap.local(3, -1);
        heap.local(1, -1);
        heap.collect(false);
        heap.make(1, 3, false);
        heap.refer(3, 2, 4);
        heap.store(0, 0, 4);
        heap.store(4, 2, 0);
        heap.refer(1, 3, 0);
        heap.knock();
        heap.keep();
        heap.enter();
        heap.make(0, 1, false);
        heap.store(7, 0, 4);
        heap.small();
        heap.begin();
        heap.step(2);
        heap.make(2, 0, false);
        heap.local(2, -1);
        return heap;
    }
}
