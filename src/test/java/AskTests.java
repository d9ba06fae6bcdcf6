/** Promises 20 to 41: pictures, and what is asked. */
public final class AskTests {
    private static final Due due = new Due("AskTests");

    public static void main(String[] args) {
        pictures();
        picturesOfCycles();
        same();
        shape();
        ofObject();
        field();
        localOf();
        path();
        row();
        free();
        fits();
        would();
        cost();
        waiting();
        remembered();
        grey();
        unseen();
        unseenFirst();
        house();
        counted();
        knock();
        isSound();
        digest();
        due.end();
    }

    private static void pictures() {
        Heapkeep heap = new Heapkeep();
        due.failsAndChangesNothing(21, "no picture", Due.STATE, heap, () -> heap.back());
        heap.make(0, 1, true);
        heap.make(1, 0, false);
        heap.refer(2, 1, 1);
        heap.store(0, 0, 1);
        heap.enter();
        due.is(20, "how many", heap.keep(), 3);
        due.is(20, "nothing changes", heap.shape() + " " + heap.row(), "012- ---- 0[1] 0[] 1[] 0:0 2:1 3:2");
        heap.store(0, 0, -1);
        heap.global(0, -1);
        heap.global(1, -1);
        heap.leave();
        heap.keeper(3);
        heap.barrier(2, true);
        heap.collect(false);
        heap.finish(3);
        heap.make(0, 6, false);
        due.is(21, "another one", heap.house(0) + " " + heap.waiting() + " " + heap.shape(),
                "3 2; 0-12 0[-,-,-,-,-,-] 1[] 0[-]");
        due.is(21, "how many", heap.back(), 3);
        due.is(21, "all is as it was", heap.shape() + " " + heap.row() + heap.waiting(), "012- ---- 0[1] 0[] 1[] 0:0 2:1 3:2;");
        due.is(21, "wish and referent", heap.ofObject(0, 7) + " " + heap.ofObject(2, 9), "1 1");
        due.is(21, "keeper and barriers", heap.house(3) + " " + heap.house(11) + " " + heap.house(12), "0 0 0");
        due.is(21, "what was counted goes on", heap.counted(0) + " " + heap.counted(1) + " " + heap.counted(8), "1 1 1");
        due.is(21, "names go on", heap.house(1) + " " + heap.ofObject(3, 0) + " " + heap.make(3, 0, false), "4 -9 4");
        due.is(21, "the picture stays", heap.back() + " " + heap.back() + " " + heap.house(0) + " " + heap.house(1), "3 3 3 5");
        due.is(21, "none went by that", heap.counted(0), 1);
        heap.leave();
        due.is(20, "another picture", heap.keep() + " " + heap.enter() + " " + heap.back() + " " + heap.house(4), "3 2 3 1");
    }

    private static void picturesOfCycles() {
        Heapkeep heap = new Heapkeep();
        heap.keeper(5);
        heap.barrier(1, false);
        heap.make(0, 1, false);
        heap.make(1, 0, false);
        heap.begin();
        heap.step(1);
        due.is(20, "how many", heap.keep(), 2);
        heap.step(60);
        heap.collect(true);
        heap.barrier(2, true);
        heap.begin();
        heap.back();
        due.is(21, "the cycle", heap.house(8) + " " + heap.house(9) + " " + heap.grey() + " " + heap.ofObject(0, 5), "1 1 1 2");
        due.is(21, "the barriers", heap.house(11) + " " + heap.house(12), "1 0");
        due.is(21, "it ends again", heap.step(60) + " " + heap.counted(3), "4 2");
        Heapkeep pending = new Heapkeep();
        pending.make(0, 0, true);
        pending.local(0, -1);
        pending.collect(false);
        pending.keep();
        pending.finish(-1);
        pending.size(64);
        due.is(22, "no picture", pending.same(), -9);
        pending.make(0, 0, true);
        pending.local(0, -1);
        pending.collect(false);
        pending.keep();
        pending.finish(-1);
        pending.back();
        due.is(21, "pending", pending.waiting() + pending.ofObject(0, 7), ";02");
        Heapkeep young = new Heapkeep();
        young.keeper(4);
        young.make(0, 0, false);
        young.small();
        young.keep();
        young.small();
        young.back();
        due.is(21, "age and address", young.ofObject(0, 3) + " " + young.ofObject(0, 2), "1 0");
        Heapkeep halves = new Heapkeep();
        halves.keeper(2);
        halves.make(0, 0, false);
        halves.collect(false);
        halves.keep();
        halves.collect(false);
        halves.back();
        due.is(21, "half and address", halves.house(10) + " " + halves.row() + " " + halves.fits(1), "1 32:0 33");
    }

    private static void same() {
        Heapkeep heap = new Heapkeep();
        due.is(22, "without a picture", heap.same(), -9);
        heap.make(0, 1, false);
        heap.keep();
        due.is(22, "the same", heap.same(), 1);
        heap.store(0, 0, 0);
        due.is(22, "another shape", heap.same(), 0);
        heap.store(0, 0, -1);
        heap.make(1, 1, false);
        due.is(22, "a longer shape", heap.same(), 0);
        heap.local(0, 1);
        heap.local(1, -1);
        due.is(22, "another object, the same shape", heap.same(), 1);
        heap.enter();
        due.is(22, "one frame more", heap.same(), 0);
        heap.leave();
        heap.local(1, 1);
        heap.local(0, -1);
        due.is(22, "as long, but another one", heap.same(), 0);
        heap.back();
        due.is(22, "back", heap.same(), 1);
    }

    private static void shape() {
        Heapkeep heap = new Heapkeep();
        heap.make(3, 2, false);
        heap.make(0, 1, false);
        heap.make(1, 0, false);
        heap.refer(2, 2, 2);
        heap.store(0, 1, 3);
        heap.store(0, 0, 1);
        heap.store(1, 0, 2);
        due.is(23, "by locals", heap.shape(), "0123 0[1] 0[] 2[] 0[0,2]");
        heap.enter();
        heap.local(1, 2);
        heap.global(0, -1);
        heap.global(1, -1);
        heap.global(2, -1);
        due.is(23, "by frames, then by fields", heap.shape(), "---0 -1-- 0[2,3] 0[] 0[1] 2[]");
        heap.global(3, -1);
        due.is(23, "no more than that", heap.shape(), "---- -0-- 0[]");
    }

    private static void ofObject() {
        Heapkeep heap = new Heapkeep();
        heap.keeper(4);
        heap.make(0, 2, false);
        heap.make(1, 1, true);
        heap.refer(2, 3, 1);
        heap.store(0, 0, 1);
        heap.store(0, 1, 1);
        heap.store(1, 0, 2);
        heap.local(2, -1);
        heap.local(1, -1);
        heap.small();
        int[][] all = {{0, 2, 0, 1, 1, -1, 1, 0, 0, -1, 1}, {0, 1, 3, 1, 2, -1, 1, 1, 1, -1, 1},
            {3, 0, 5, 1, 1, -1, 1, 0, 2, 1, 1}};
        for (int name = 0; name < 3; name++) {
            for (int what = 0; what <= 10; what++) {
                due.is(24, "ofObject(" + name + ", " + what + ")", heap.ofObject(name, what), all[name][what]);
            }
        }
        heap.small();
        due.is(24, "old", heap.ofObject(0, 10) + " " + heap.ofObject(0, 2) + " " + heap.ofObject(0, 3), "0 16 2");
        heap.local(0, -1);
        due.is(24, "not reached", heap.ofObject(1, 6) + " " + heap.ofObject(1, 8) + " " + heap.ofObject(1, 4), "0 -1 2");
        heap.collect(false);
        due.is(24, "pending", heap.ofObject(1, 7) + " " + heap.ofObject(1, 4) + " " + heap.ofObject(1, 6), "2 1 0");
        for (int what = 0; what <= 10; what++) {
            int asked = what;
            due.is(24, "gone", heap.ofObject(0, what), -9);
            due.fails(24, "never was", Due.INDEX, () -> heap.ofObject(3, asked));
        }
        due.failsAndChangesNothing(24, "object -1, named first", Due.INDEX, heap, () -> heap.ofObject(-1, 11));
        due.failsAndChangesNothing(24, "what -1", Due.ARGUMENT, heap, () -> heap.ofObject(0, -1));
        due.failsAndChangesNothing(24, "what 11", Due.ARGUMENT, heap, () -> heap.ofObject(1, 11));
        Heapkeep counts = new Heapkeep();
        counts.make(0, 1, false);
        counts.store(0, 0, 0);
        counts.local(1, 0);
        counts.enter();
        counts.local(2, 0);
        counts.refer(0, 1, 0);
        due.is(24, "count: locals and fields", counts.ofObject(0, 4), 4);
        due.is(24, "not young with another keeper", counts.ofObject(0, 10), 0);
        counts.make(1, 2, false);
        counts.make(3, 1, false);
        counts.store(2, 0, 3);
        counts.store(3, 0, 1);
        counts.local(0, -1);
        counts.local(3, -1);
        due.is(24, "how far", counts.ofObject(2, 8) + " " + counts.ofObject(3, 8) + " " + counts.ofObject(1, 8), "0 1 2");
        counts.store(2, 1, 1);
        due.is(24, "the shortest", counts.ofObject(1, 8), 1);
    }

    private static void field() {
        Heapkeep heap = new Heapkeep();
        heap.make(0, 6, false);
        heap.refer(1, 1, 0);
        heap.store(0, 5, 1);
        due.is(25, "fields", heap.field(0, 5) + " " + heap.field(0, 0) + " " + heap.field(1, 0), "1 -1 -9");
        heap.make(2, 5, false);
        due.is(25, "no such field", heap.field(2, 4) + " " + heap.field(2, 5), "-1 -9");
        heap.local(0, -1);
        due.is(25, "not reached", heap.field(0, 5), 1);
        heap.collect(false);
        due.is(25, "gone", heap.field(0, 5), -9);
        due.failsAndChangesNothing(25, "object -1", Due.INDEX, heap, () -> heap.field(-1, 0));
        due.failsAndChangesNothing(25, "object 3", Due.INDEX, heap, () -> heap.field(3, 0));
        due.failsAndChangesNothing(25, "field -1", Due.INDEX, heap, () -> heap.field(0, -1));
        due.failsAndChangesNothing(25, "field 6", Due.INDEX, heap, () -> heap.field(0, 6));
    }

    private static void localOf() {
        Heapkeep heap = new Heapkeep();
        heap.make(3, 0, false);
        heap.enter();
        heap.make(1, 0, false);
        due.is(26, "locals", heap.localOf(0, 3) + " " + heap.localOf(1, 1) + " " + heap.localOf(1, 3), "0 1 -1");
        due.failsAndChangesNothing(26, "frame -1", Due.INDEX, heap, () -> heap.localOf(-1, 0));
        due.failsAndChangesNothing(26, "frame 2", Due.INDEX, heap, () -> heap.localOf(2, 0));
        due.failsAndChangesNothing(26, "slot -1", Due.INDEX, heap, () -> heap.localOf(1, -1));
        due.failsAndChangesNothing(26, "slot 4", Due.INDEX, heap, () -> heap.localOf(0, 4));
    }

    private static void path() {
        Heapkeep heap = new Heapkeep();
        heap.make(3, 2, false);
        heap.make(2, 2, false);
        heap.make(1, 2, false);
        heap.make(0, 2, false);
        heap.enter();
        heap.make(0, 1, false);
        heap.store(0, 0, 3);
        heap.store(1, 0, 2);
        heap.store(2, 0, 4);
        heap.store(3, 1, 4);
        heap.global(0, -1);
        heap.global(1, -1);
        heap.local(0, -1);
        due.is(27, "the first names weigh most", heap.path(4), "0>3>4");
        due.is(27, "held by a local", heap.path(1), "1");
        heap.store(1, 1, 3);
        due.is(27, "the smaller one ahead", heap.path(3) + " " + heap.path(2), "0>3 1>2");
        heap.store(0, 1, 2);
        due.is(27, "the smaller one between", heap.path(4), "0>2>4");
        heap.store(0, 1, 4);
        due.is(27, "the shortest one", heap.path(4), "0>4");
        heap.make(0, 0, false);
        heap.refer(1, 2, 5);
        heap.local(0, -1);
        due.is(27, "not by a reference", heap.path(5) + heap.path(6), "6");
        heap.local(1, -1);
        heap.collect(false);
        due.is(27, "gone", heap.path(5), "");
        due.failsAndChangesNothing(27, "object -1", Due.INDEX, heap, () -> heap.path(-1));
        due.failsAndChangesNothing(27, "object 7", Due.INDEX, heap, () -> heap.path(7));
        Heapkeep order = new Heapkeep();
        order.make(0, 2, false);
        order.make(1, 1, false);
        order.make(2, 1, false);
        order.make(3, 0, false);
        order.store(0, 0, 2);
        order.store(0, 1, 1);
        order.store(1, 0, 3);
        order.store(2, 0, 3);
        order.local(1, -1);
        order.local(2, -1);
        order.local(3, -1);
        due.is(27, "by names, not by fields", order.path(3), "0>1>3");
    }

    private static void row() {
        Heapkeep heap = new Heapkeep();
        due.is(28, "none", heap.row(), "");
        heap.make(0, 2, false);
        heap.make(0, 1, false);
        heap.collect(false);
        heap.make(1, 0, false);
        heap.make(1, 2, false);
        due.is(28, "by addresses", heap.row(), "0:2 3:1 5:3");
    }

    private static void free() {
        Heapkeep heap = new Heapkeep();
        heap.size(16);
        heap.make(0, 2, false);
        heap.make(1, 1, false);
        heap.make(2, 6, false);
        heap.make(3, 0, false);
        heap.local(0, -1);
        heap.local(2, -1);
        heap.collect(false);
        due.is(29, "ranges", heap.free(), "0+3 5+7 13+3");
        heap.make(0, 2, false);
        heap.make(2, 6, false);
        heap.enter();
        heap.make(0, 2, false);
        due.is(29, "none", heap.free() + heap.house(5) + heap.house(6), "00");
        heap.size(17);
        heap.keeper(4);
        heap.make(0, 0, false);
        due.is(29, "not cut at the young room", heap.free(), "1+16");
        heap.keeper(2);
        due.is(29, "not cut at the half", heap.free(), "1+16");
    }

    private static void fits() {
        Heapkeep heap = new Heapkeep();
        heap.size(16);
        heap.make(0, 6, false);
        heap.make(0, 2, false);
        due.is(30, "without a collection", heap.fits(6) + " " + heap.fits(7) + " " + heap.fits(1), "10 -1 10");
        due.failsAndChangesNothing(30, "cells 0", Due.ARGUMENT, heap, () -> heap.fits(0));
        due.failsAndChangesNothing(30, "cells 8", Due.ARGUMENT, heap, () -> heap.fits(8));
    }

    private static void would() {
        Heapkeep heap = new Heapkeep();
        heap.make(0, 1, false);
        heap.make(1, 0, false);
        heap.make(2, 1, true);
        heap.refer(3, 2, 0);
        due.is(31, "none", heap.would(false) + heap.would(true), "");
        heap.store(0, 0, 1);
        heap.local(0, -1);
        heap.local(1, -1);
        heap.make(1, 0, false);
        heap.store(2, 0, 4);
        heap.local(1, -1);
        heap.local(2, -1);
        due.is(31, "not hard", heap.would(false), "");
        due.is(31, "hard", heap.would(true), "0 1");
        due.is(31, "nothing changes", heap.waiting() + heap.house(0) + heap.counted(1), ";50");
        due.is(31, "and so it goes", heap.collect(true) + heap.waiting(), "23;2");
        heap.finish(-1);
        due.is(31, "what was pending", heap.would(false) + "/" + heap.would(true), "2 4/2 4");
    }

    private static void cost() {
        Heapkeep heap = new Heapkeep();
        for (int kind = 0; kind <= 6; kind++) {
            due.is(32, "nothing costs nothing", heap.cost(kind), 0);
        }
        heap.make(0, 4, false);
        heap.refer(1, 2, 0);
        heap.local(0, -1);
        heap.make(0, 1, false);
        heap.local(0, -1);
        int[] costs = {2 + 4 + 3, 9, 7 + 4, 2 + 4 + 3 + 7, 9, 9, 2 * (3 + 5) + 3 - 2};
        for (int kind = 0; kind <= 6; kind++) {
            due.is(32, "cost(" + kind + ")", heap.cost(kind), costs[kind]);
        }
        due.failsAndChangesNothing(32, "kind -1", Due.ARGUMENT, heap, () -> heap.cost(-1));
        due.failsAndChangesNothing(32, "kind 7", Due.ARGUMENT, heap, () -> heap.cost(7));
    }

    private static void waiting() {
        Heapkeep heap = new Heapkeep();
        due.is(33, "none", heap.waiting(), ";");
        heap.make(0, 0, true);
        heap.make(0, 0, true);
        heap.refer(1, 1, 1);
        heap.refer(2, 1, 1);
        heap.local(0, -1);
        heap.collect(false);
        due.is(33, "both", heap.waiting(), "2 3;0 1");
        heap.poll();
        heap.finish(-1);
        due.is(33, "one of each", heap.waiting(), "3;1");
    }

    private static void remembered() {
        Heapkeep heap = new Heapkeep();
        heap.make(0, 2, false);
        heap.make(1, 1, false);
        heap.make(2, 2, false);
        heap.refer(3, 2, 0);
        heap.keeper(4);
        heap.enter();
        heap.make(0, 1, false);
        heap.store(2, 1, 4);
        heap.store(0, 0, 4);
        heap.store(1, 0, 0);
        heap.store(4, 0, 4);
        due.is(34, "old ones that hold young ones", heap.remembered(), "0 2");
        heap.global(0, -1);
        heap.store(1, 0, -1);
        due.is(34, "reached or not", heap.remembered(), "0 2");
        heap.refer(1, 1, 4);
        heap.global(3, 5);
        due.is(34, "by fields alone", heap.remembered(), "0 2");
        heap.keeper(0);
        due.is(34, "with another keeper", heap.remembered(), "");
    }

    private static void grey() {
        Heapkeep heap = new Heapkeep();
        heap.keeper(5);
        heap.make(0, 2, false);
        heap.make(1, 0, false);
        heap.make(2, 0, false);
        heap.store(0, 0, 2);
        heap.store(0, 1, 0);
        heap.local(2, -1);
        due.is(35, "without a cycle", heap.grey(), "");
        heap.begin();
        due.is(35, "roots", heap.grey(), "0 1");
        heap.step(1);
        due.is(35, "the row", heap.grey(), "1 2");
        heap.collect(false);
        due.is(35, "broken off", heap.grey() + heap.house(8), "0");
    }

    private static void unseen() {
        Heapkeep heap = new Heapkeep();
        heap.keeper(5);
        heap.make(0, 3, false);
        heap.make(1, 2, false);
        heap.make(2, 0, false);
        heap.make(3, 0, false);
        heap.store(1, 0, 2);
        heap.store(1, 1, 3);
        heap.local(2, -1);
        heap.local(3, -1);
        heap.begin();
        heap.step(1);
        due.is(36, "none", heap.unseen(), "");
        heap.store(0, 0, 3);
        heap.store(0, 1, 2);
        heap.store(0, 2, 3);
        due.is(36, "by names, once", heap.unseen(), "2 3");
        heap.step(1);
        due.is(36, "grey ones are not", heap.unseen(), "");
        heap.refer(2, 1, 3);
        heap.begin();
        heap.step(1);
        due.is(36, "a cycle anew", heap.unseen() + " " + heap.grey(), " 1 4 3 2");
        heap.keeper(5);
        due.is(36, "without a cycle", heap.unseen(), "");
        heap.begin();
        heap.make(3, 1, false);
        heap.store(5, 0, 2);
        due.is(36, "a new one is black", heap.unseen(), "2");
        heap.refer(3, 2, 3);
        due.is(36, "held by fields alone", heap.unseen(), "2");
    }

    private static void unseenFirst() {
        Heapkeep heap = new Heapkeep();
        heap.keeper(5);
        heap.make(0, 0, false);
        heap.make(1, 1, false);
        heap.store(1, 0, 0);
        heap.local(0, -1);
        heap.begin();
        heap.load(2, 1, 0);
        heap.make(3, 1, false);
        heap.store(2, 0, 0);
        due.is(36, "the first name", heap.unseen(), "0");
    }

    private static void house() {
        Heapkeep heap = new Heapkeep();
        heap.size(40);
        heap.make(0, 3, false);
        heap.make(1, 1, false);
        heap.make(2, 6, false);
        heap.local(1, -1);
        heap.enter();
        int[] all = {3, 3, 40, 0, 2, 27, 27, 2, 0, 0, 0, 0, 0};
        for (int what = 0; what <= 12; what++) {
            due.is(37, "house(" + what + ")", heap.house(what), all[what]);
        }
        heap.collect(false);
        due.is(37, "after a collection", heap.house(0) + " " + heap.house(1) + " " + heap.house(5) + " " + heap.house(6), "2 3 29 27");
        heap.keeper(2);
        heap.collect(false);
        due.is(37, "the half", heap.house(10) + " " + heap.house(3) + " " + heap.house(6), "1 2 20");
        heap.keeper(5);
        heap.barrier(2, true);
        heap.begin();
        due.is(37, "a cycle", heap.house(8) + "" + heap.house(9) + heap.house(11) + heap.house(12), "1121");
        due.failsAndChangesNothing(37, "what -1", Due.ARGUMENT, heap, () -> heap.house(-1));
        due.failsAndChangesNothing(37, "what 13", Due.ARGUMENT, heap, () -> heap.house(13));
    }

    private static void counted() {
        Heapkeep heap = new Heapkeep();
        heap.keeper(4);
        heap.make(0, 0, false);
        heap.make(0, 0, false);
        heap.small();
        heap.make(1, 0, false);
        heap.refer(2, 1, 2);
        heap.local(1, -1);
        heap.collect(true);
        heap.keeper(5);
        heap.begin();
        heap.step(60);
        int[] all = {2, 1, 1, 1, 0, 0, 1 + 5 + 5, 5, 1, 2, 0};
        for (int what = 0; what <= 9; what++) {
            due.is(38, "counted(" + what + ")", heap.counted(what), all[what]);
        }
        due.failsAndChangesNothing(38, "what -1", Due.ARGUMENT, heap, () -> heap.counted(-1));
        due.failsAndChangesNothing(38, "what 10", Due.ARGUMENT, heap, () -> heap.counted(10));
        heap.keep();
        heap.make(3, 0, false);
        heap.back();
        due.is(38, "back() lets none go", heap.counted(0), 2);
    }

    private static void knock() {
        Heapkeep heap = new Heapkeep();
        due.is(39, "knocks", heap.knock() + " " + heap.knock(), "1 2");
        heap.keep();
        heap.size(16);
        due.is(39, "size() does not change it", heap.knock(), 3);
        heap.keep();
        heap.knock();
        heap.back();
        due.is(39, "back() does not either", heap.knock(), 5);
        due.is(39, "another one", new Heapkeep().knock(), 1);
    }

    private static void isSound() {
        for (int kind = 0; kind <= 6; kind++) {
            Heapkeep heap = new Heapkeep();
            heap.keeper(kind);
            due.is(40, "empty", heap.isSound(), true);
            for (int i = 0; i < 30; i++) {
                heap.make(i % 4, i % 3, i % 5 == 0);
                heap.refer((i + 1) % 4, 1 + i % 3, heap.localOf(0, i % 4));
                due.is(40, "sound by keeper " + kind, heap.isSound(), true);
                heap.poll();
                heap.finish(i % 4);
            }
        }
    }

    /** By the words of the promise, from what the other calls answer. */
    static long digestOf(Heapkeep heap) {
        StringBuilder all = new StringBuilder();
        for (int what = 0; what <= 12; what++) {
            all.append(heap.house(what)).append(' ');
        }
        for (int what = 0; what <= 9; what++) {
            all.append(heap.counted(what)).append(' ');
        }
        for (int name = 0; name < heap.house(1); name++) {
            for (int what = 0; what <= 10; what++) {
                all.append(heap.ofObject(name, what)).append(' ');
            }
            for (int field = 0; field <= 5; field++) {
                all.append(heap.field(name, field)).append(' ');
            }
        }
        for (int frame = 0; frame < heap.house(4); frame++) {
            for (int slot = 0; slot <= 3; slot++) {
                all.append(heap.localOf(frame, slot)).append(' ');
            }
        }
        String[] texts = {heap.shape(), heap.row(), heap.free(), heap.waiting(), heap.remembered(), heap.grey(),
            heap.unseen(), heap.would(false), heap.would(true)};
        for (String text : texts) {
            all.append(text.length()).append(' ');
        }
        for (int cells = 1; cells <= 7; cells++) {
            all.append(heap.fits(cells)).append(' ');
        }
        for (int kind = 0; kind <= 6; kind++) {
            all.append(heap.cost(kind)).append(' ');
        }
        all.append(heap.same()).append(' ').append(heap.isSound() ? 1 : 0);
        long d = 6100;
        for (String v : all.toString().split(" ")) {
            d = d * 31 + Long.parseLong(v);
        }
        return d;
    }

    private static void digest() {
        for (int kind = 0; kind <= 6; kind++) {
            Heapkeep heap = new Heapkeep();
            due.is(41, "of a new one", heap.digest(), 2808614015581862468L);
            heap.size(128);
            heap.keeper(kind);
            heap.barrier(kind % 3, kind % 2 == 1);
            for (int i = 0; i < 20; i++) {
                int name = heap.make(i % 4, 1 + i % 3, i % 4 == 0);
                heap.store(name, 0, i % 5 == 0 ? -1 : heap.localOf(0, (i + 2) % 4));
                heap.refer(i % 3, 1 + i % 3, name);
                heap.finish(-1);
                if (i % 6 == 1) {
                    heap.begin();
                }
                heap.step(2);
                if (i == 9) {
                    heap.keep();
                    heap.enter();
                }
                due.is(41, "digest()", heap.digest(), digestOf(heap));
                due.is(41, "it changes nothing", heap.digest(), digestOf(heap));
            }
        }
    }
}
