import java.math.BigInteger;

/** Section 7 and the promises 20 to 41 at their edges: pictures, texts, what is counted, the checksum. */
public final class EdgeAskTests {
    private static final Due due = new Due("EdgeAskTests");

    public static void main(String[] args) {
        pictureOfNone();
        pictureOfFull();
        pictureStays();
        pictureReplaced();
        pictureGoneBySize();
        pictureWithoutCounts();
        pictureOfAll();
        sameByShape();
        sameOfOthers();
        shapeOfNone();
        shapeOfMany();
        shapeOrder();
        shapeOfReferences();
        gone();
        wishes();
        distances();
        reached();
        pathOfNone();
        pathLongest();
        pathSmallest();
        pathByNames();
        rowOfEach();
        freeOfEach();
        fitsOfNone();
        wouldOfEach();
        wouldBesideCounts();
        waitingOfEach();
        houseOfNone();
        houseOfFull();
        houseAlone();
        countedNothing();
        countedOne();
        countedByBack();
        knocks();
        soundAtTheEdges();
        digestOfNew();
        digestWraps();
        digestOfAll();
        digestOfSoft();
        digestBesideKnocks();
        due.end();
    }

    // ---- pictures

    private static void pictureOfNone() {
        due.sentence("-9 without a PICTURE");
        Heapkeep heap = new Heapkeep();
        due.is(22, "no picture", heap.same(), -9);
        due.fails(21, "no picture", Due.STATE, () -> heap.back());
        due.sentence("The PICTURE is all as it is now (but what was counted).");
        due.is(20, "of no objects", heap.keep() + " " + heap.same(), "0 1");
        heap.make(0, 0, false);
        heap.enter();
        due.is(21, "no objects, one frame", heap.same() + " " + heap.back() + " " + heap.shape() + heap.row() + " " + heap.same(),
                "0 0 ---- 1");
        due.is(21, "names go on", heap.make(0, 0, false), 1);
    }

    private static void pictureOfFull() {
        due.sentence("Returns how many OBJECTS there are.");
        Heapkeep heap = new Heapkeep();
        heap.size(128);
        for (int name = 0; name < 128; name++) {
            heap.make(0, 0, true);
        }
        heap.local(0, -1);
        heap.collect(false);
        due.is(20, "128 of 128", heap.keep(), 128);
        for (int name = 0; name < 128; name++) {
            heap.finish(-1);
        }
        due.is(13, "all go", heap.collect(false) + heap.row(), 128);
        due.sentence("Returns how many OBJECTS there are then.");
        due.is(21, "all are back", heap.back() + " " + heap.house(0) + " " + heap.free() + heap.waiting().length(), "128 128 402");
        due.fails(3, "and full", Due.STATE, () -> heap.make(0, 0, false));
        due.is(18, "pending again", heap.finish(-1) + " " + heap.finish(-1), "0 1");
    }

    private static void pictureStays() {
        due.sentence("All is as in the PICTURE (what was counted goes on; the PICTURE stays).");
        Heapkeep heap = new Heapkeep();
        heap.make(0, 1, false);
        heap.keep();
        for (int times = 0; times < 3; times++) {
            heap.store(0, 0, 0);
            heap.make(1, 0, false);
            due.is(22, "another one", heap.same(), 0);
            due.is(21, "back", heap.back() + " " + heap.same() + " " + heap.shape() + " " + heap.row(), "1 1 0--- 0[-] 0:0");
            due.is(37, "names go on", heap.house(1), 2 + times);
        }
    }

    private static void pictureReplaced() {
        due.sentence("The PICTURE is all as it is now (but what was counted).");
        Heapkeep heap = new Heapkeep();
        heap.make(0, 0, false);
        heap.keep();
        heap.make(1, 0, false);
        due.is(20, "a newer one", heap.keep(), 2);
        heap.local(0, -1);
        heap.local(1, -1);
        heap.collect(false);
        due.is(21, "the newer one alone", heap.back() + " " + heap.shape(), "2 01-- 0[] 0[]");
        heap.collect(false);
        due.is(20, "of what back() brought", heap.keep() + " " + heap.back(), "2 2");
    }

    private static void pictureGoneBySize() {
        due.sentence("no PICTURE; what was counted is 0");
        Heapkeep heap = new Heapkeep();
        heap.keep();
        heap.size(64);
        due.is(22, "no picture", heap.same(), -9);
        due.fails(21, "no picture", Due.STATE, () -> heap.back());
    }

    private static void pictureWithoutCounts() {
        due.sentence("(what was counted, and how many NAMES were told, is not in it)");
        Heapkeep heap = new Heapkeep();
        heap.make(0, 0, false);
        heap.keep();
        heap.refer(1, 1, 0);
        heap.local(0, -1);
        heap.collect(false);
        heap.back();
        due.is(38, "what was counted goes on", heap.counted(0) + " " + heap.counted(1) + " " + heap.counted(6) + " " + heap.counted(8), "1 1 3 1");
        due.is(37, "names, too", heap.house(1) + " " + heap.house(0) + " " + heap.ofObject(1, 0) + " " + heap.field(1, 0), "2 1 -9 -9");
        due.sentence("Throws `IllegalStateException` if it is not REACHED");
        due.fails(5, "what is not there any more", Due.STATE, () -> heap.local(1, 1));
        due.is(27, "nor is there a way", heap.path(1), "");
    }

    /** Each keeper, with all that can be looked at, behind calls that change all of it. */
    private static void pictureOfAll() {
        due.sentence("All is as in the PICTURE");
        for (int keeper = 0; keeper <= 6; keeper++) {
            Heapkeep heap = Twins.rich(keeper);
            heap.keep();
            String before = pictured(heap);
            Twins.aftermath(heap);
            heap.back();
            due.is(21, "back behind many calls", pictured(heap), before);
            Heapkeep other = Twins.rich(keeper);
            other.keep();
            other.poll();
            other.finish(1);
            other.global(0, -1);
            other.collect(true);
            other.begin();
            other.keeper(keeper == 3 ? 0 : 3);
            other.barrier(2, false);
            other.enter();
            due.is(21, "all is another thing", pictured(other).equals(before), false);
            other.back();
            due.is(21, "all is as it was, keeper " + keeper, pictured(other), before);
        }
    }

    /** All that a picture holds: the names that were there then, and all but what was counted. */
    private static String pictured(Heapkeep heap) {
        StringBuilder all = new StringBuilder(heap.shape() + "|" + heap.row() + "|" + heap.free() + "|" + heap.waiting()
                + "|" + heap.remembered() + "|" + heap.grey() + "|" + heap.unseen() + "|" + heap.would(false) + "|" + heap.would(true));
        for (int what = 0; what <= 12; what++) {
            all.append(' ').append(what == 1 ? 0 : heap.house(what));
        }
        for (int name = 0; name < 9; name++) {
            for (int what = 0; what <= 10; what++) {
                all.append(' ').append(heap.ofObject(name, what)).append(',').append(heap.field(name, what % 6));
            }
        }
        return all.toString();
    }

    private static void sameByShape() {
        due.sentence("Returns 1 if the SHAPE is that of the PICTURE, otherwise 0; -9 without a PICTURE.");
        Heapkeep heap = new Heapkeep();
        heap.make(0, 2, false);
        heap.make(1, 0, true);
        heap.store(0, 1, 1);
        heap.keep();
        heap.keeper(4);
        heap.barrier(1, true);
        heap.make(2, 0, false);
        heap.local(2, -1);
        due.is(22, "other addresses, what none reaches", heap.same(), 1);
        heap.make(1, 0, false);
        heap.store(0, 1, 3);
        due.is(22, "another one of the same shape, without a wish", heap.same(), 1);
        heap.finish(-1);
        heap.collect(false);
        due.is(22, "one more is pending", heap.same() + heap.waiting(), "1;1");
    }

    private static void sameOfOthers() {
        due.sentence("Returns 1 if the SHAPE is that of the PICTURE, otherwise 0");
        Twins.Act[] acts = {h -> h.enter(), h -> h.local(3, 0), h -> h.local(1, -1), h -> h.store(0, 0, 1), h -> h.store(0, 1, -1),
            h -> h.make(1, 1, false), h -> h.refer(1, 1, 0), h -> h.make(3, 0, false), h -> h.store(0, 1, 0)};
        for (int i = 0; i < acts.length; i++) {
            Heapkeep heap = new Heapkeep();
            heap.make(0, 2, false);
            heap.make(1, 0, false);
            heap.store(0, 1, 1);
            heap.keep();
            due.is(22, "the same", heap.same(), 1);
            acts[i].on(heap);
            due.is(22, "another shape, " + i, heap.same(), 0);
        }
    }

    // ---- shape

    private static void shapeOfNone() {
        due.sentence("for each LOCAL the number (or \"-\"), one blank between two frames, nothing else between");
        Heapkeep heap = new Heapkeep();
        String[] shapes = {"----", "---- ----", "---- ---- ----", "---- ---- ---- ----", "---- ---- ---- ---- ----"};
        for (int frames = 1; frames <= 5; frames++) {
            due.is(23, "no objects", heap.shape(), shapes[frames - 1]);
            if (frames < 5) {
                heap.enter();
            }
        }
    }

    private static void shapeOfMany() {
        due.sentence("for each LOCAL the number (or \"-\"), one blank between two frames, nothing else between");
        Heapkeep heap = new Heapkeep();
        for (int frame = 0; frame < 5; frame++) {
            for (int slot = 3; slot >= 0; slot--) {
                heap.make(slot, 0, false);
            }
            if (frame < 4) {
                heap.enter();
            }
        }
        due.is(23, "twenty", heap.shape(), "0123 4567 891011 12131415 16171819" + " 0[]".repeat(20));
        Heapkeep chain = new Heapkeep();
        chain.size(128);
        StringBuilder shape = new StringBuilder("0---");
        for (int name = 0; name < 64; name++) {
            chain.make(1, 1, false);
            if (name > 0) {
                chain.store(name, 0, name - 1);
            }
            chain.local(0, name);
            shape.append(name < 63 ? " 0[" + (name + 1) + "]" : " 0[-]");
        }
        chain.local(1, -1);
        due.is(23, "64 in a row, all is full", chain.shape() + chain.free(), shape.toString());
    }

    private static void shapeOrder() {
        due.sentence("those that are REACHED are numbered from 0 as one comes to them: LOCALS by frames and numbers, then, OBJECT by OBJECT in this order, by FIELDS");
        Heapkeep heap = new Heapkeep();
        heap.make(2, 6, false);
        heap.make(1, 2, false);
        for (int name = 2; name <= 5; name++) {
            heap.make(3, 1, false);
            heap.store(name < 4 ? 0 : 1, name % 2 == 0 ? 1 : 0, name);
        }
        heap.store(0, 5, 0);
        heap.store(4, 0, 2);
        heap.local(3, -1);
        due.is(23, "1 and 0 by locals, 5 and 4 by 1, 3 and 2 by 0", heap.shape(), "-01- 0[2,3] 0[4,5,-,-,-,1] 0[-] 0[5] 0[-] 0[-]");
    }

    private static void shapeOfReferences() {
        due.sentence("then for each OBJECT in this order \" \", its KIND, \"[\", its FIELDS by their numbers (or \"-\") with \",\" between, \"]\"");
        Heapkeep heap = new Heapkeep();
        heap.make(0, 0, false);
        for (int kind = 1; kind <= 3; kind++) {
            heap.refer(kind, kind, 0);
        }
        due.is(23, "kinds", heap.shape(), "0123 0[] 1[] 2[] 3[]");
        heap.local(0, -1);
        due.is(23, "no reference reaches", heap.shape(), "-012 1[] 2[] 3[]");
        heap.collect(true);
        due.is(23, "nor does one that was cleared show it", heap.shape(), "-012 1[] 2[] 3[]");
        for (int fields = 0; fields <= 6; fields++) {
            Heapkeep one = new Heapkeep();
            one.make(0, fields, false);
            due.is(23, "fields", one.shape(), "0--- 0[" + "-,-,-,-,-,-".substring(0, Math.max(0, 2 * fields - 1)) + "]");
        }
    }

    // ---- objects

    private static void gone() {
        due.sentence("Returns that; -9, if it is gone.");
        Heapkeep heap = new Heapkeep();
        heap.make(0, 1, false);
        heap.refer(1, 1, 0);
        heap.local(0, -1);
        heap.local(1, -1);
        for (int what = 0; what <= 10; what++) {
            due.is(24, "not reached, but there", heap.ofObject(0, what) != -9 && heap.ofObject(1, what) != -9, true);
        }
        due.is(25, "its field", heap.field(0, 0), -1);
        heap.collect(false);
        for (int what = 0; what <= 10; what++) {
            due.is(24, "gone", heap.ofObject(0, what) + " " + heap.ofObject(1, what), "-9 -9");
        }
        due.is(25, "its field", heap.field(0, 0) + " " + heap.field(1, 0), "-9 -9");
    }

    private static void wishes() {
        due.sentence("7 0 without a last WISH, 1 with one, 2 if it is PENDING");
        Heapkeep heap = new Heapkeep();
        heap.make(0, 0, false);
        heap.make(1, 0, true);
        heap.refer(2, 1, 1);
        due.is(24, "at first", heap.ofObject(0, 7) + " " + heap.ofObject(1, 7) + " " + heap.ofObject(2, 7), "0 1 0");
        heap.local(1, -1);
        due.is(24, "not reached", heap.ofObject(1, 7), 1);
        heap.collect(false);
        due.is(24, "pending", heap.ofObject(1, 7), 2);
        heap.finish(1);
        due.is(24, "heard", heap.ofObject(1, 7) + " " + heap.ofObject(1, 6), "0 1");
    }

    private static void distances() {
        due.sentence("8 how many FIELDS lie between it and a LOCAL at least (NONE, if it is not REACHED)");
        Heapkeep heap = new Heapkeep();
        heap.make(0, 2, false);
        for (int name = 1; name < 12; name++) {
            heap.make(1, 2, false);
            heap.store(name - 1, 0, name);
        }
        heap.local(1, -1);
        for (int name = 0; name < 12; name++) {
            due.is(24, "how far", heap.ofObject(name, 8), name);
        }
        heap.store(2, 1, 10);
        due.is(24, "the shortest way", heap.ofObject(10, 8) + " " + heap.ofObject(11, 8) + " " + heap.ofObject(9, 8), "3 4 9");
        heap.enter();
        heap.local(3, 9);
        due.is(24, "any local", heap.ofObject(9, 8) + " " + heap.ofObject(10, 8), "0 1");
        heap.global(0, -1);
        due.is(24, "not reached", heap.ofObject(8, 8) + " " + heap.ofObject(0, 8) + " " + heap.ofObject(11, 8), "-1 -1 2");
    }

    private static void reached() {
        due.sentence("what a LOCAL holds, and what a FIELD of one that is REACHED holds");
        Heapkeep heap = new Heapkeep();
        heap.make(0, 6, false);
        heap.make(1, 1, false);
        heap.store(0, 5, 1);
        heap.store(1, 0, 0);
        heap.refer(2, 2, 1);
        heap.local(1, -1);
        due.is(24, "by the last field", heap.ofObject(1, 6) + " " + heap.house(7), "1 3");
        heap.local(0, -1);
        due.is(24, "a ring that none holds", heap.ofObject(0, 6) + " " + heap.ofObject(1, 6) + " " + heap.house(7), "0 0 1");
    }

    // ---- ways

    private static void pathOfNone() {
        due.sentence("the first ones weighing most; \"\" if it is not REACHED");
        Heapkeep heap = new Heapkeep();
        heap.make(0, 0, true);
        heap.refer(1, 2, 0);
        heap.local(0, -1);
        due.is(27, "held softly", heap.path(0) + heap.path(1), "1");
        heap.collect(true);
        due.is(27, "pending", heap.path(0) + heap.waiting(), "1;0");
        heap.local(1, -1);
        due.is(27, "in the queue", heap.path(1), "");
        heap.finish(-1);
        heap.collect(false);
        due.is(27, "gone", heap.path(0), "");
    }

    private static void pathLongest() {
        due.sentence("Returns the NAMES from one that a LOCAL holds to it, each in a FIELD of the one ahead, with \">\" between two");
        Heapkeep heap = new Heapkeep();
        heap.size(128);
        StringBuilder way = new StringBuilder();
        for (int name = 0; name < 64; name++) {
            heap.make(1, 1, false);
            if (name > 0) {
                heap.store(name, 0, name - 1);
            }
            heap.local(0, name);
            way.insert(0, name + (name == 0 ? "" : ">"));
        }
        heap.local(1, -1);
        due.is(27, "64 in a row", heap.path(0), way.toString());
        due.is(27, "the first ones of it", heap.path(63) + " " + heap.path(62), "63 63>62");
    }

    private static void pathSmallest() {
        due.sentence("of the shortest ones that whose NAMES are smallest, the first ones weighing most");
        Heapkeep ways = new Heapkeep();
        ways.size(128);
        ways.make(0, 2, false);
        ways.make(1, 2, false);
        for (int name = 2; name <= 10; name++) {
            ways.make(2, 1, false);
            if (name == 9 || name == 10) {
                ways.store(name == 9 ? 1 : 0, 0, name);
            }
        }
        ways.local(2, -1);
        ways.make(2, 0, false);
        ways.store(9, 0, 11);
        ways.store(10, 0, 11);
        ways.local(2, -1);
        due.is(27, "0 and 10 ahead of 1 and 9", ways.path(11), "0>10>11");
        ways.local(2, 10);
        due.is(27, "a shorter one", ways.path(11), "10>11");
        ways.local(3, 9);
        due.is(27, "9 is a number, and less than 10", ways.path(11), "9>11");
    }

    /** Neither locals nor fields stand by names here. */
    private static void pathByNames() {
        due.sentence("of the shortest ones that whose NAMES are smallest, the first ones weighing most");
        Heapkeep locals = new Heapkeep();
        for (int name = 0; name < 4; name++) {
            locals.make(3 - name, 1, false);
        }
        locals.enter();
        locals.make(0, 0, false);
        for (int name = 0; name < 4; name++) {
            locals.store(name, 0, 4);
        }
        locals.local(0, -1);
        for (int name = 0; name < 4; name++) {
            due.is(27, "of the locals that hold it", locals.path(4), name + ">4");
            locals.store(name, 0, -1);
        }
        due.is(27, "none", locals.path(4), "");
        int[][] orders = {{6, 5, 4, 3, 2, 1}, {3, 6, 1, 5, 2, 4}, {1, 2, 3, 4, 5, 6}, {2, 1, 4, 3, 6, 5}};
        for (int[] order : orders) {
            Heapkeep fields = new Heapkeep();
            fields.make(0, 6, false);
            for (int name = 1; name <= 6; name++) {
                fields.make(1, 1, false);
                for (int field = 0; field < 6; field++) {
                    if (order[field] == name) {
                        fields.store(0, field, name);
                    }
                }
            }
            fields.make(1, 0, false);
            for (int name = 1; name <= 6; name++) {
                fields.store(name, 0, 7);
            }
            fields.local(1, -1);
            for (int name = 1; name <= 6; name++) {
                due.is(27, "of the fields that hold it", fields.path(7) + " " + fields.path(name), "0>" + name + ">7 0>" + name);
                fields.store(name, 0, -1);
            }
        }
    }

    // ---- cells

    private static void rowOfEach() {
        due.sentence("Returns by rising ADDRESSES ADDRESS, \":\", NAME of each OBJECT, with a blank between two.");
        Heapkeep heap = new Heapkeep();
        due.is(28, "none", heap.row(), "");
        heap.make(0, 0, false);
        due.is(28, "one", heap.row(), "0:0");
        StringBuilder row = new StringBuilder("0:0");
        for (int name = 1; name < 64; name++) {
            heap.make(0, 0, false);
            row.append(' ').append(name).append(':').append(name);
        }
        due.is(28, "all is full, reached or not", heap.row(), row.toString());
    }

    private static void freeOfEach() {
        due.sentence("Returns by rising ADDRESSES the first CELL, \"+\", and how many, of each RANGE, with a blank between two");
        for (int size : new int[] {16, 64, 128}) {
            Heapkeep heap = new Heapkeep();
            heap.size(size);
            due.is(29, "all are free", heap.free(), "0+" + size);
            for (int cell = 0; cell < size; cell++) {
                heap.make(0, 0, false);
                due.is(29, "what is left", heap.free(), cell == size - 1 ? "" : cell + 1 + "+" + (size - 1 - cell));
            }
        }
        Heapkeep ranges = new Heapkeep();
        ranges.size(16);
        for (int name = 0; name < 8; name++) {
            ranges.make(3, 0, false);
            ranges.make(name % 3, 0, false);
            if (name % 3 == 2) {
                ranges.local(3, -1);
                ranges.enter();
            }
        }
        ranges.local(3, -1);
        ranges.collect(false);
        due.is(29, "between any two", ranges.free() + " " + ranges.house(6), "0+1 2+1 4+1 6+1 8+1 10+1 12+1 14+1 1");
    }

    private static void fitsOfNone() {
        due.sentence("Returns the ADDRESS which a new OBJECT with so many would have without a collection; NONE, if there is no room.");
        Heapkeep heap = new Heapkeep();
        heap.size(16);
        for (int name = 0; name < 16; name++) {
            int free = 16 - name;
            for (int cells = 1; cells <= 7; cells++) {
                due.is(30, cells + " cells in " + free, heap.fits(cells), cells <= free ? name : -1);
            }
            heap.make(0, 0, false);
        }
        due.is(30, "though 15 would go", heap.fits(1) + " " + heap.would(false).length(), "-1 " + (10 + 5 * 2 + 14));
    }

    private static void wouldOfEach() {
        due.sentence("Returns the NAMES that would go by collect(isHard), rising, with a blank between two.");
        for (int keeper = 0; keeper <= 5; keeper++) {
            Heapkeep heap = new Heapkeep();
            heap.keeper(keeper);
            due.is(31, "none is there", heap.would(false) + heap.would(true), "");
            heap.make(3, 1, false);
            heap.make(1, 0, false);
            due.is(31, "none would go", heap.would(false) + heap.would(true), "");
            heap.refer(0, 2, 0);
            heap.local(3, -1);
            heap.local(1, -1);
            due.is(31, "one; two by a hard one", heap.would(false) + "/" + heap.would(true), "1/0 1");
            heap.local(0, -1);
            due.is(31, "all would go", heap.would(false) + "/" + heap.would(true), "0 1 2/0 1 2");
            due.is(31, "nothing was counted", heap.counted(0) + heap.counted(1) + heap.counted(6) + heap.counted(8), 0);
            due.is(13, "and they go", heap.collect(false) + heap.row(), 3);
        }
    }

    private static void wouldBesideCounts() {
        due.sentence("Returns the NAMES that would go by collect(isHard), rising, with a blank between two.");
        Heapkeep heap = new Heapkeep();
        heap.keeper(6);
        heap.make(0, 1, false);
        heap.store(0, 0, 0);
        heap.make(1, 0, true);
        heap.refer(2, 1, 1);
        heap.local(1, -1);
        heap.local(0, -1);
        due.is(31, "a ring alone: a wish keeps the other one", heap.would(false) + "/" + heap.would(true), "0/0");
        due.is(13, "and it goes", heap.collect(true) + " " + heap.row() + " " + heap.waiting(), "1 2:1 3:2 2;1");
    }

    private static void waitingOfEach() {
        due.sentence("Returns the QUEUE, \";\", PENDING, by NAMES, with a blank between two.");
        Heapkeep heap = new Heapkeep();
        due.is(33, "none", heap.waiting(), ";");
        heap.make(0, 0, false);
        heap.refer(1, 1, 0);
        heap.local(0, -1);
        heap.collect(false);
        due.is(33, "one in the queue", heap.waiting(), "1;");
        heap.make(0, 0, true);
        heap.local(0, -1);
        heap.collect(false);
        due.is(33, "one of each", heap.waiting(), "1;2");
        heap.poll();
        due.is(33, "one pending", heap.waiting(), ";2");
        due.sentence("Returns its NAME; NONE, if there is none.");
        due.is(19, "no queue", heap.poll() + " " + heap.waiting(), "-1 ;2");
        due.sentence("Returns its NAME; NONE, if none is PENDING (nothing is done then).");
        heap.make(3, 0, false);
        due.is(18, "the last one", heap.finish(-1) + " " + heap.finish(3) + " " + heap.localOf(0, 3) + heap.waiting(), "2 -1 3;");
    }

    // ---- house and what was counted

    private static void houseOfNone() {
        due.sentence("6 the longest RANGE (0)");
        Heapkeep heap = new Heapkeep();
        int[] all = {0, 0, 16, 0, 1, 16, 16, 0, 0, 0, 0, 0, 0};
        heap.size(16);
        for (int what = 0; what <= 12; what++) {
            due.is(37, "of an empty one, " + what, heap.house(what), all[what]);
        }
        int[] full = {16, 16, 16, 0, 1, 0, 0, 1, 0, 0, 0, 0, 0};
        for (int name = 0; name < 16; name++) {
            heap.make(0, 0, false);
        }
        for (int what = 0; what <= 12; what++) {
            due.is(37, "of a full one, " + what, heap.house(what), full[what]);
        }
    }

    private static void houseOfFull() {
        due.sentence("0 OBJECTS, 1 NAMES told ever, 2 SIZE, 3 KEEPER, 4 frames, 5 FREE CELLS, 6 the longest RANGE (0), 7 REACHED ones");
        Heapkeep heap = new Heapkeep();
        heap.size(128);
        heap.keeper(2);
        heap.collect(false);
        heap.barrier(2, true);
        for (int frames = 2; frames <= 5; frames++) {
            heap.enter();
        }
        heap.make(0, 6, false);
        heap.make(0, 3, false);
        int[] all = {2, 2, 128, 2, 5, 117, 64, 1, 0, 0, 1, 2, 1};
        for (int what = 0; what <= 12; what++) {
            due.is(37, "by halves, " + what, heap.house(what), all[what]);
        }
        heap.keeper(5);
        heap.begin();
        int[] cycle = {2, 2, 128, 5, 5, 117, 117, 1, 1, 1, 0, 2, 1};
        for (int what = 0; what <= 12; what++) {
            due.is(37, "in a cycle, " + what, heap.house(what), cycle[what]);
        }
    }

    private static void houseAlone() {
        due.sentence("5 FREE CELLS, 6 the longest RANGE (0), 7 REACHED ones");
        Heapkeep heap = new Heapkeep();
        int[] longest = {64, 57, 50, 43};
        for (int i = 0; i < longest.length; i++) {
            due.is(37, "the longest range, asked alone", heap.house(6), longest[i]);
            heap.make(i, 6, false);
        }
        heap.local(1, -1);
        heap.collect(false);
        due.is(37, "the longest one of two", heap.house(6), 36);
        heap.local(3, -1);
        heap.local(2, -1);
        heap.collect(false);
        due.is(37, "cells that are free", heap.house(5), 57);
        heap.local(0, -1);
        due.is(37, "reached ones", heap.house(7), 0);
        heap.collect(false);
        due.is(37, "the longest range, asked alone", heap.house(6), 64);
    }

    private static void countedNothing() {
        due.sentence("Returns that, since size() or the beginning.");
        for (int keeper = 0; keeper <= 6; keeper++) {
            Heapkeep heap = Twins.rich(keeper);
            heap.collect(true);
            heap.size(128);
            for (int what = 0; what <= 9; what++) {
                due.is(38, "since size()", heap.counted(what), 0);
            }
        }
    }

    private static void countedOne() {
        due.sentence("0 OBJECTS that went ever (not those that back() makes not be there), 1 WHOLE collections (HARD ones, too), 2 SMALL ones, 3 CYCLES that came to their end");
        Heapkeep heap = new Heapkeep();
        heap.collect(false);
        due.is(38, "a whole one", counts(heap), "0 1 0 0 0 0 0 0 0 0");
        heap.collect(true);
        due.is(38, "a hard one", counts(heap), "0 2 0 0 0 0 0 0 0 0");
        heap.keeper(4);
        heap.small();
        due.is(38, "a small one", counts(heap), "0 2 1 0 0 0 0 0 0 0");
        heap.keeper(5);
        heap.begin();
        heap.begin();
        due.is(38, "a cycle that began", counts(heap), "0 2 1 0 0 0 0 0 0 0");
        heap.step(1);
        due.is(38, "a cycle that ended", counts(heap), "0 2 1 1 0 0 1 1 0 0");
        heap.make(0, 0, false);
        heap.refer(1, 1, 0);
        heap.local(0, -1);
        heap.would(true);
        heap.cost(0);
        due.is(38, "what is asked", counts(heap), "0 2 1 1 0 0 1 1 0 0");
        heap.collect(false);
        due.is(38, "one went, one was cleared", counts(heap), "1 3 1 1 0 0 4 3 1 0");
        heap.keeper(3);
        due.is(38, "another keeper moves, but is no collection", counts(heap), "1 3 1 1 0 0 4 3 1 0");
        heap.make(2, 0, false);
        heap.local(1, -1);
        heap.poll();
        heap.collect(false);
        due.is(38, "one went, one was moved", counts(heap), "2 4 1 1 0 0 8 4 1 1");
        heap.keeper(6);
        heap.local(2, -1);
        due.is(38, "one went by counts", counts(heap), "3 4 1 1 0 0 8 4 1 1");
    }

    private static String counts(Heapkeep heap) {
        StringBuilder text = new StringBuilder();
        for (int what = 0; what <= 9; what++) {
            text.append(what == 0 ? "" : " ").append(heap.counted(what));
        }
        return text.toString();
    }

    private static void countedByBack() {
        due.sentence("(not those that back() makes not be there)");
        Heapkeep heap = new Heapkeep();
        heap.keep();
        heap.make(0, 0, false);
        heap.make(1, 0, false);
        heap.back();
        due.is(38, "none went", counts(heap) + heap.row(), "0 0 0 0 0 0 0 0 0 0");
        Heapkeep twice = new Heapkeep();
        twice.make(0, 0, false);
        twice.local(0, -1);
        twice.keep();
        for (int times = 1; times <= 3; times++) {
            twice.collect(false);
            twice.back();
            due.is(38, "the same one goes each time", twice.counted(0), times);
        }
    }

    private static void knocks() {
        due.sentence("Returns how often one knocked ever, with this (size() does not change it).");
        Heapkeep heap = new Heapkeep();
        heap.keep();
        for (int times = 1; times <= 500; times++) {
            due.is(39, "knocks", heap.knock(), times);
            if (times % 100 == 0) {
                heap.size(16 + times / 10);
                heap.keep();
            } else if (times % 10 == 0) {
                heap.back();
            }
        }
    }

    private static void soundAtTheEdges() {
        due.sentence("FREE CELLS and those of OBJECTS are SIZE together");
        for (int keeper = 0; keeper <= 6; keeper++) {
            for (int size : new int[] {16, 17, 127, 128}) {
                Heapkeep heap = new Heapkeep();
                heap.size(size);
                heap.keeper(keeper);
                due.is(40, "empty", heap.isSound(), true);
                for (int times = 0; times < 40; times++) {
                    int name = heap.house(1);
                    Twins.answer(heap, h -> h.make(name % 4, name % 7, name % 3 == 0));
                    Twins.answer(heap, h -> h.store(name, 0, h.localOf(0, (name + 1) % 4)));
                    Twins.answer(heap, h -> h.refer((name + 2) % 4, 1 + name % 3, name));
                    heap.begin();
                    heap.step(3);
                    due.is(40, "sound", heap.isSound(), true);
                }
            }
        }
        Heapkeep lost = new Heapkeep();
        lost.keeper(5);
        lost.make(0, 1, false);
        lost.make(1, 1, false);
        lost.make(2, 0, false);
        lost.store(1, 0, 2);
        lost.local(2, -1);
        lost.begin();
        lost.step(1);
        lost.load(2, 1, 0);
        lost.store(0, 0, 2);
        lost.store(1, 0, -1);
        lost.local(2, -1);
        lost.step(60);
        due.sentence("and none was LOST in a CYCLE that was GUARDED");
        due.is(40, "lost, but not guarded", lost.counted(5) + " " + lost.isSound(), "1 true");
    }

    // ---- the checksum

    private static final BigInteger TWO_TO_64 = BigInteger.ONE.shiftLeft(64);

    /** Without bound, and cut to 64 bits at the end alone. */
    private static BigInteger unbounded(int... values) {
        BigInteger d = BigInteger.valueOf(6100);
        for (int value : values) {
            d = d.multiply(BigInteger.valueOf(31)).add(BigInteger.valueOf(value));
        }
        return d;
    }

    private static long wrapped(BigInteger d) {
        BigInteger rest = d.mod(TWO_TO_64);
        return (rest.testBit(63) ? rest.subtract(TWO_TO_64) : rest).longValueExact();
    }

    private static void digestOfNew() {
        due.sentence("A number d starts with 6100; then d becomes d * 31 + v, which wraps around as a 64-bit integer, for each v in this order");
        due.sentence("Returns d.");
        BigInteger d = unbounded(0, 0, 64, 0, 1, 64, 64, 0, 0, 0, 0, 0, 0, 0, 0, 0, 0, 0, 0, 0, 0, 0, 0, -1, -1, -1, -1,
                4, 0, 4, 1, 0, 0, 0, 0, 0, 0, 0, 0, 0, 0, 0, 0, 0, 0, 0, 0, 0, 0, 0, -9, 1);
        due.is(41, "it is far beyond 64 bits", d.bitLength() > 200, true);
        due.is(41, "of a new one", new Heapkeep().digest(), wrapped(d));
        Heapkeep least = new Heapkeep();
        least.size(16);
        least.keep();
        due.is(41, "of one with a picture", least.digest(), wrapped(unbounded(0, 0, 16, 0, 1, 16, 16, 0, 0, 0, 0, 0, 0,
                0, 0, 0, 0, 0, 0, 0, 0, 0, 0, -1, -1, -1, -1, 4, 0, 4, 1, 0, 0, 0, 0, 0, 0, 0, 0, 0, 0, 0, 0,
                0, 0, 0, 0, 0, 0, 0, 1, 1)));
    }

    private static void digestWraps() {
        due.sentence("which wraps around as a 64-bit integer");
        Heapkeep heap = new Heapkeep();
        heap.size(128);
        int below = 0;
        int above = 0;
        for (int name = 0; name < 60; name++) {
            heap.make(name % 4, name % 3, name % 5 == 0);
            long digest = heap.digest();
            due.is(41, "by numbers without bound", digest, wrapped(unboundedOf(heap)));
            below += digest < 0 ? 1 : 0;
            above += digest > 0 ? 1 : 0;
        }
        due.is(41, "below and above 0", below > 10 && above > 10, true);
    }

    private static void digestOfAll() {
        due.sentence("house() of 0 to 12; counted() of 0 to 9; for each NAME ever told ofObject() of 0 to 10, field() of 0 to 5; "
                + "frame by frame localOf() of 0 to 3; the number of signs of shape(), row(), free(), waiting(), remembered(), grey(), "
                + "unseen(), would() that is not HARD, would() that is HARD; fits() of 1 to 7; cost() of 0 to 6; same(); "
                + "1 if isSound(), otherwise 0.");
        for (int keeper = 0; keeper <= 6; keeper++) {
            Heapkeep heap = Twins.rich(keeper);
            due.is(41, "of all, those that are gone too, keeper " + keeper, heap.digest(), wrapped(unboundedOf(heap)));
            for (int frames = 3; frames <= 5; frames++) {
                heap.enter();
                due.is(41, "frames", heap.digest(), wrapped(unboundedOf(heap)));
            }
            heap.back();
            due.is(41, "back", heap.digest(), wrapped(unboundedOf(heap)));
        }
    }

    private static void digestOfSoft() {
        due.sentence("would() that is not HARD, would() that is HARD; fits() of 1 to 7; cost() of 0 to 6");
        for (int keeper = 0; keeper <= 6; keeper++) {
            Heapkeep heap = new Heapkeep();
            heap.keeper(keeper);
            heap.make(0, 3, true);
            heap.make(1, 2, false);
            heap.refer(1, 2, 1);
            heap.make(3, 1, false);
            heap.store(3, 0, 3);
            heap.local(3, -1);
            heap.local(0, -1);
            due.is(31, "a hard one takes more", heap.would(false) + "/" + heap.would(true), "3/1 3");
            due.is(41, "of what is held softly, keeper " + keeper, heap.digest(), wrapped(unboundedOf(heap)));
        }
    }

    private static BigInteger unboundedOf(Heapkeep heap) {
        int names = heap.house(1);
        int frames = heap.house(4);
        int[] v = new int[13 + 10 + 17 * names + 4 * frames + 9 + 7 + 7 + 2];
        int n = 0;
        for (int what = 0; what <= 12; what++) {
            v[n++] = heap.house(what);
        }
        for (int what = 0; what <= 9; what++) {
            v[n++] = heap.counted(what);
        }
        for (int name = 0; name < names; name++) {
            for (int what = 0; what <= 10; what++) {
                v[n++] = heap.ofObject(name, what);
            }
            for (int field = 0; field <= 5; field++) {
                v[n++] = heap.field(name, field);
            }
        }
        for (int place = 0; place < 4 * frames; place++) {
            v[n++] = heap.localOf(place / 4, place % 4);
        }
        String[] texts = {heap.shape(), heap.row(), heap.free(), heap.waiting(), heap.remembered(), heap.grey(), heap.unseen(),
            heap.would(false), heap.would(true)};
        for (String text : texts) {
            v[n++] = text.length();
        }
        for (int cells = 1; cells <= 7; cells++) {
            v[n++] = heap.fits(cells);
        }
        for (int kind = 0; kind <= 6; kind++) {
            v[n++] = heap.cost(kind);
        }
        v[n++] = heap.same();
        v[n++] = heap.isSound() ? 1 : 0;
        return unbounded(v);
    }

    private static void digestBesideKnocks() {
        due.sentence("What one asks for changes nothing.");
        Heapkeep heap = Twins.rich(3);
        long before = heap.digest();
        heap.knock();
        due.is(41, "a knock is not in it, and twice is the same", heap.digest() + " " + heap.digest(), before + " " + before);
    }
}
