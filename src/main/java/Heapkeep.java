/** A heap of objects, with keepers that throw away what nobody can come to any more. */
public final class Heapkeep {
    private static final int NONE = -1;
    private static final int GONE = -9;
    private static final int NOT_LET = -9;

    private static final int LEAST_SIZE = 16;
    private static final int MOST_SIZE = 128;
    private static final int FIRST_SIZE = 64;
    // Each name is told by a call of its own, and a heap is used for 512 calls.
    private static final int MOST_NAMES = 512;
    private static final int MOST_FIELDS = 6;
    private static final int MOST_FRAMES = 5;
    private static final int LOCALS = 4;
    private static final int REFERENCE_CELLS = 2;
    private static final int MOST_BUDGET = 60;
    private static final int OLD_AGE = 2;

    private static final int PLAIN = 0;
    private static final int SOFT = 2;
    private static final int LAST = 3;

    private static final int FIRST = 0;
    private static final int BEST = 1;
    private static final int HALVES = 2;
    private static final int SLIDE = 3;
    private static final int YOUNG = 4;
    private static final int COLOURS = 5;
    private static final int COUNTS = 6;

    private static final int WHITE = 0;
    private static final int GREY = 1;
    private static final int BLACK = 2;

    private static final int STORE_NONE = 0;
    private static final int STORE_NEW = 1;
    private static final int STORE_OLD = 2;

    private static final int NO_WISH = 0;
    private static final int WISH = 1;
    private static final int IS_PENDING = 2;

    private static final int WENT = 0;
    private static final int WHOLES = 1;
    private static final int SMALLS = 2;
    private static final int CYCLES = 3;
    private static final int LOST_GUARDED = 4;
    private static final int LOST_OTHERS = 5;
    private static final int SPENT = 6;
    private static final int DEAREST = 7;
    private static final int CLEARED = 8;
    private static final int MOVED = 9;
    private static final int TALLIES = 10;

    private static final int LAST_HOUSE = 12;
    private static final int LAST_OF_OBJECT = 10;
    private static final long DIGEST_START = 6100L;
    private static final long DIGEST_FACTOR = 31L;

    private final Heap heap = new Heap();
    private final Heap picture = new Heap();
    private final Heap saved = new Heap();
    private final Row tally = new Row(TALLIES);
    private final Row savedTally = new Row(TALLIES);
    private final Walk reached = new Walk(heap);
    private final Room room = new Room(heap);
    private final Counts counts = new Counts(heap);
    private final Collector collector = new Collector(heap, tally, room);
    private final Teller teller = new Teller(heap, reached, room, collector);
    private final Audit audit = new Audit(heap, counts);
    private boolean isPictured;
    private String picturedShape = "";
    private int told;
    private int knocks;

    public Heapkeep() {
        beginAnew(FIRST_SIZE);
    }

    // ---- what a program does

    public int size(int cells) throws IllegalArgumentException {
        if (cells < LEAST_SIZE || cells > MOST_SIZE) {
            throw new IllegalArgumentException("a heap has 16 to 128 cells");
        }
        int before = heap.cells;
        beginAnew(cells);
        return before;
    }

    public int make(int slot, int fields, boolean isWish)
            throws IndexOutOfBoundsException, IllegalArgumentException, IllegalStateException {
        checkSlot(slot);
        if (fields < 0 || fields > MOST_FIELDS) {
            throw new IllegalArgumentException("an object has 0 to 6 fields");
        }
        int address = roomFor(fields + 1);
        checkRoom(address);
        int name = bringIn(PLAIN, fields, address);
        heap.things.wish.put(name, isWish ? WISH : NO_WISH);
        heap.roots.putTop(slot, name);
        settle();
        return name;
    }

    public int refer(int slot, int kind, int object)
            throws IndexOutOfBoundsException, IllegalArgumentException, IllegalStateException {
        checkSlot(slot);
        checkName(object);
        if (kind <= PLAIN || kind > LAST) {
            throw new IllegalArgumentException("a reference has the kind 1 to 3");
        }
        checkReached(object);
        int address = roomFor(REFERENCE_CELLS);
        checkRoom(address);
        int name = bringIn(kind, 0, address);
        heap.things.referent.put(name, object);
        heap.cycle.seeNamed(object);
        heap.roots.putTop(slot, name);
        settle();
        return name;
    }

    public int local(int slot, int object) throws IndexOutOfBoundsException, IllegalStateException {
        checkSlot(slot);
        return putLocal(heap.roots.placeInTop(slot), object);
    }

    public int global(int slot, int object) throws IndexOutOfBoundsException, IllegalStateException {
        checkSlot(slot);
        return putLocal(slot, object);
    }

    public int store(int object, int field, int value)
            throws IndexOutOfBoundsException, IllegalStateException {
        checkName(object);
        checkField(field);
        if (value != NONE) {
            checkName(value);
            checkReached(value);
        }
        checkHasField(object, field);
        int before = heap.things.heldBy(object, field);
        heap.cycle.seeNamed(object);
        heap.cycle.seeNamed(value);
        heap.cycle.seeStored(value, before);
        heap.things.hold(object, field, value);
        settle();
        return before;
    }

    public int load(int slot, int object, int field)
            throws IndexOutOfBoundsException, IllegalStateException {
        checkSlot(slot);
        checkName(object);
        checkField(field);
        checkHasField(object, field);
        int found = heap.things.heldBy(object, field);
        heap.cycle.seeNamed(object);
        heap.cycle.seeNamed(found);
        heap.roots.putTop(slot, found);
        settle();
        return found;
    }

    public int get(int slot, int object) throws IndexOutOfBoundsException, IllegalStateException {
        checkSlot(slot);
        checkName(object);
        checkReached(object);
        int kind = heap.things.kind.at(object);
        if (kind == PLAIN) {
            throw new IllegalStateException("the object is no reference");
        }
        int found = kind == LAST ? NONE : heap.things.referent.at(object);
        heap.cycle.seeNamed(object);
        heap.cycle.becomeGrey(found);
        heap.roots.putTop(slot, found);
        settle();
        return found;
    }

    public int enter() throws IllegalStateException {
        if (heap.roots.frames() >= MOST_FRAMES) {
            throw new IllegalStateException("there are 5 frames");
        }
        heap.roots.addFrame();
        return heap.roots.frames();
    }

    public int leave() throws IllegalStateException {
        if (heap.roots.frames() <= 1) {
            throw new IllegalStateException("there is one frame");
        }
        heap.roots.dropFrame();
        settle();
        return heap.roots.frames();
    }

    // ---- keepers

    public int keeper(int kind) throws IllegalArgumentException {
        checkKeeper(kind);
        int before = heap.keeper;
        if (!room.layAll(kind)) {
            return NOT_LET;
        }
        heap.keeper = kind;
        heap.half = 0;
        heap.things.makeYoungest();
        heap.cycle.breakOff();
        settle();
        return before;
    }

    public int collect(boolean isHard) {
        int went = collector.collectWhole(isHard);
        settle();
        return went;
    }

    public int small() {
        return heap.keeper == YOUNG ? collector.collectYoung() : NOT_LET;
    }

    public int begin() {
        if (heap.keeper != COLOURS) {
            return NOT_LET;
        }
        collector.startCycle();
        return heap.cycle.row.length();
    }

    public int step(int budget) throws IllegalArgumentException {
        if (budget < 1 || budget > MOST_BUDGET) {
            throw new IllegalArgumentException("a budget is 1 to 60");
        }
        return heap.cycle.isGoing ? collector.goOn(budget) : NOT_LET;
    }

    public int barrier(int store, boolean isRead) throws IllegalArgumentException {
        if (store < STORE_NONE || store > STORE_OLD) {
            throw new IllegalArgumentException("a store barrier is 0 to 2");
        }
        return heap.cycle.changeBarriers(store, isRead);
    }

    public int finish(int slot) throws IndexOutOfBoundsException {
        if (slot != NONE) {
            checkSlot(slot);
        }
        if (heap.roots.pending.length() == 0) {
            return NONE;
        }
        int name = heap.roots.pending.takeFirst();
        heap.things.wish.put(name, NO_WISH);
        if (slot != NONE) {
            heap.roots.putTop(slot, name);
        }
        settle();
        return name;
    }

    public int poll() {
        int name = heap.roots.queue.takeFirst();
        settle();
        return name;
    }

    // ---- pictures

    public int keep() {
        picture.takeOver(heap);
        teller.tellShape();
        picturedShape = teller.text();
        isPictured = true;
        return heap.things.there.length();
    }

    public int back() throws IllegalStateException {
        if (!isPictured) {
            throw new IllegalStateException("there is no picture");
        }
        heap.takeOver(picture);
        return heap.things.there.length();
    }

    public int same() {
        if (!isPictured) {
            return NOT_LET;
        }
        teller.tellShape();
        return teller.isText(picturedShape) ? 1 : 0;
    }

    public String shape() {
        teller.tellShape();
        return teller.text();
    }

    // ---- what is asked

    public int ofObject(int object, int what)
            throws IndexOutOfBoundsException, IllegalArgumentException {
        checkName(object);
        checkAsked(what, LAST_OF_OBJECT);
        lookAtObjects();
        return tellOfObject(object, what);
    }

    public int field(int object, int field) throws IndexOutOfBoundsException {
        checkName(object);
        checkField(field);
        return tellField(object, field);
    }

    public int localOf(int frame, int slot) throws IndexOutOfBoundsException {
        if (frame < 0 || frame >= heap.roots.frames()) {
            throw new IndexOutOfBoundsException("there is no such frame");
        }
        checkSlot(slot);
        return heap.roots.locals.at(frame * LOCALS + slot);
    }

    public String path(int object) throws IndexOutOfBoundsException {
        checkName(object);
        teller.tellPath(object);
        return teller.text();
    }

    public String row() {
        teller.tellRow();
        return teller.text();
    }

    public String free() {
        teller.tellFree();
        return teller.text();
    }

    public int fits(int cells) throws IllegalArgumentException {
        if (cells < 1 || cells > MOST_FIELDS + 1) {
            throw new IllegalArgumentException("an object has 1 to 7 cells");
        }
        return room.placeFor(cells);
    }

    public String would(boolean isHard) {
        teller.tellGoing(isHard);
        return teller.text();
    }

    public int cost(int kind) throws IllegalArgumentException {
        checkKeeper(kind);
        collector.planWhole(false);
        return collector.costAs(kind);
    }

    public String waiting() {
        teller.tellWaiting();
        return teller.text();
    }

    public String remembered() {
        teller.tellRemembered();
        return teller.text();
    }

    public String grey() {
        teller.tellGrey();
        return teller.text();
    }

    public String unseen() {
        teller.tellUnseen();
        return teller.text();
    }

    public int house(int what) throws IllegalArgumentException {
        checkAsked(what, LAST_HOUSE);
        return tellHouse(what);
    }

    public int counted(int what) throws IllegalArgumentException {
        checkAsked(what, TALLIES - 1);
        return tally.at(what);
    }

    public int knock() {
        knocks++;
        return knocks;
    }

    public boolean isSound() {
        reached.reach();
        return audit.isAllRight(reached.order.length(), room.freeCells())
                && tally.at(LOST_GUARDED) == 0;
    }

    public long digest() {
        long sum = DIGEST_START;
        for (int what = 0; what <= LAST_HOUSE; what++) {
            sum = joined(sum, tellHouse(what));
        }
        for (int what = 0; what < TALLIES; what++) {
            sum = joined(sum, tally.at(what));
        }
        sum = joinObjects(sum);
        for (int place = 0; place < heap.roots.locals.length(); place++) {
            sum = joined(sum, heap.roots.locals.at(place));
        }
        sum = joinTexts(sum);
        for (int cells = 1; cells <= MOST_FIELDS + 1; cells++) {
            sum = joined(sum, room.placeFor(cells));
        }
        collector.planWhole(false);
        for (int kind = FIRST; kind <= COUNTS; kind++) {
            sum = joined(sum, collector.costAs(kind));
        }
        sum = joined(sum, same());
        return joined(sum, isSound() ? 1 : 0);
    }

    // ---- checks of what a call names

    private void checkSlot(int slot) {
        if (slot < 0 || slot >= LOCALS) {
            throw new IndexOutOfBoundsException("a frame has the locals 0 to 3");
        }
    }

    private void checkName(int object) {
        if (object < 0 || object >= told) {
            throw new IndexOutOfBoundsException("there never was such an object");
        }
    }

    private void checkField(int field) {
        if (field < 0 || field >= MOST_FIELDS) {
            throw new IndexOutOfBoundsException("fields have the numbers 0 to 5");
        }
    }

    private void checkReached(int object) {
        reached.reach();
        if (!reached.has(object)) {
            throw new IllegalStateException("the object is not reached");
        }
    }

    private void checkHasField(int object, int field) {
        checkReached(object);
        if (!heap.things.hasField(object, field)) {
            throw new IllegalStateException("the object has no such field");
        }
    }

    private void checkRoom(int address) {
        if (address == NONE) {
            throw new IllegalStateException("there is no room");
        }
    }

    private void checkKeeper(int kind) {
        if (kind < FIRST || kind > COUNTS) {
            throw new IllegalArgumentException("there are the keepers 0 to 6");
        }
    }

    private void checkAsked(int what, int most) {
        if (what < 0 || what > most) {
            throw new IllegalArgumentException("there is nothing asked by this number");
        }
    }

    // ---- what calls have in common

    private void beginAnew(int cells) {
        heap.beginAnew(cells);
        tally.fill(TALLIES, 0);
        isPictured = false;
        told = 0;
    }

    private int putLocal(int place, int object) {
        if (object != NONE) {
            checkName(object);
            checkReached(object);
        }
        int before = heap.roots.locals.at(place);
        heap.cycle.seeNamed(object);
        heap.roots.locals.put(place, object);
        settle();
        return before;
    }

    private int bringIn(int kind, int fields, int address) {
        int name = told;
        told++;
        heap.things.come(name, kind, fields, address);
        heap.cycle.colour.put(name, BLACK);
        return name;
    }

    /** Finds where so many cells would lie, and collects for them if that has to be. */
    private int roomFor(int cells) {
        if (told >= MOST_NAMES) {
            return NONE;
        }
        boolean isSmallAhead = heap.keeper == YOUNG && !room.isYoungPlaceFor(cells);
        int address = isSmallAhead ? NONE : room.placeFor(cells);
        if (address != NONE) {
            return address;
        }
        saved.takeOver(heap);
        savedTally.takeOver(tally);
        if (isSmallAhead) {
            collector.collectYoung();
            address = room.placeFor(cells);
        }
        if (address == NONE) {
            collector.collectWhole(false);
            address = room.placeFor(cells);
        }
        if (address == NONE) {
            collector.collectWhole(true);
            address = room.placeFor(cells);
        }
        if (address == NONE) {
            heap.takeOver(saved);
            tally.takeOver(savedTally);
        }
        return address;
    }

    private void settle() {
        if (heap.keeper == COUNTS) {
            tally.more(WENT, counts.release());
        }
    }

    /** What tellOfObject needs of all objects; apart from it, for the digest asks of each. */
    private void lookAtObjects() {
        reached.reach();
        counts.reckon();
    }

    private int tellOfObject(int object, int what) {
        Things things = heap.things;
        if (!things.isThere(object)) {
            return GONE;
        }
        switch (what) {
            case 0: return things.kind.at(object);
            case 1: return things.fields.at(object);
            case 2: return things.address.at(object);
            case 3: return things.age.at(object);
            case 4: return counts.count.at(object);
            case 5: return heap.cycle.isGoing ? heap.cycle.colour.at(object) : NONE;
            case 6: return reached.has(object) ? 1 : 0;
            case 7: return things.wish.at(object);
            case 8: return reached.has(object) ? reached.distance.at(object) : NONE;
            case 9: return things.referent.at(object);
            default: return heap.isYoung(object) ? 1 : 0;
        }
    }

    private int tellField(int object, int field) {
        if (!heap.things.isThere(object) || !heap.things.hasField(object, field)) {
            return GONE;
        }
        return heap.things.heldBy(object, field);
    }

    private int tellHouse(int what) {
        Cycle cycle = heap.cycle;
        switch (what) {
            case 0: return heap.things.there.length();
            case 1: return told;
            case 2: return heap.cells;
            case 3: return heap.keeper;
            case 4: return heap.roots.frames();
            case 5: return room.freeCells();
            case 6: return room.longestRange();
            case 7: reached.reach(); return reached.order.length();
            case 8: return cycle.isGoing ? 1 : 0;
            case 9: return cycle.isGoing && cycle.isGuarded ? 1 : 0;
            case 10: return heap.half;
            case 11: return cycle.storeBarrier;
            default: return cycle.isReadBarrier ? 1 : 0;
        }
    }

    private static long joined(long sum, long value) {
        return sum * DIGEST_FACTOR + value;
    }

    private long joinObjects(long start) {
        long sum = start;
        lookAtObjects();
        for (int name = 0; name < told; name++) {
            for (int what = 0; what <= LAST_OF_OBJECT; what++) {
                sum = joined(sum, tellOfObject(name, what));
            }
            for (int field = 0; field < MOST_FIELDS; field++) {
                sum = joined(sum, tellField(name, field));
            }
        }
        return sum;
    }

    private long joinTexts(long start) {
        teller.tellShape();
        long sum = joined(start, teller.signs());
        teller.tellRow();
        sum = joined(sum, teller.signs());
        teller.tellFree();
        sum = joined(sum, teller.signs());
        teller.tellWaiting();
        sum = joined(sum, teller.signs());
        teller.tellRemembered();
        sum = joined(sum, teller.signs());
        teller.tellGrey();
        sum = joined(sum, teller.signs());
        teller.tellUnseen();
        sum = joined(sum, teller.signs());
        teller.tellGoing(false);
        sum = joined(sum, teller.signs());
        teller.tellGoing(true);
        return joined(sum, teller.signs());
    }

    /** A row of numbers in a fixed room; asked for a place that it has not, it answers NONE. */
    private static final class Row {
        private final int[] numbers;
        private int length;

        Row(int most) {
            numbers = new int[most > 0 ? most : 0];
        }

        int length() {
            return length;
        }

        int at(int place) {
            return place >= 0 && place < length ? numbers[place] : NONE;
        }

        void put(int place, int number) {
            if (place >= 0 && place < length) {
                numbers[place] = number;
            }
        }

        void more(int place, int by) {
            if (place >= 0 && place < length) {
                numbers[place] += by;
            }
        }

        void add(int number) {
            if (length < numbers.length) {
                numbers[length] = number;
                length++;
            }
        }

        void removeAt(int place) {
            if (place < 0 || place >= length) {
                return;
            }
            System.arraycopy(numbers, place + 1, numbers, place, length - place - 1);
            length--;
        }

        int takeFirst() {
            int first = at(0);
            removeAt(0);
            return first;
        }

        void cut(int shorter) {
            if (shorter >= 0 && shorter < length) {
                length = shorter;
            }
        }

        void fill(int howMany, int number) {
            length = Math.min(Math.max(howMany, 0), numbers.length);
            for (int place = 0; place < length; place++) {
                numbers[place] = number;
            }
        }

        int placeOf(int number) {
            for (int place = 0; place < length; place++) {
                if (numbers[place] == number) {
                    return place;
                }
            }
            return NONE;
        }

        void takeOver(Row other) {
            int howMany = Math.min(other.length, numbers.length);
            System.arraycopy(other.numbers, 0, numbers, 0, howMany);
            length = howMany;
        }
    }

    /** The objects, each row by names; those that are gone have no address. */
    private static final class Things {
        final Row there = new Row(MOST_SIZE);
        final Row kind = new Row(MOST_NAMES);
        final Row fields = new Row(MOST_NAMES);
        final Row held = new Row(MOST_NAMES * MOST_FIELDS);
        final Row referent = new Row(MOST_NAMES);
        final Row wish = new Row(MOST_NAMES);
        final Row address = new Row(MOST_NAMES);
        final Row age = new Row(MOST_NAMES);

        Things() {
            kind.fill(MOST_NAMES, PLAIN);
            fields.fill(MOST_NAMES, 0);
            held.fill(MOST_NAMES * MOST_FIELDS, NONE);
            referent.fill(MOST_NAMES, NONE);
            wish.fill(MOST_NAMES, NO_WISH);
            address.fill(MOST_NAMES, NONE);
            age.fill(MOST_NAMES, 0);
        }

        /** The other rows are written as an object comes. */
        void beginAnew() {
            there.cut(0);
            address.fill(MOST_NAMES, NONE);
        }

        void takeOver(Things other) {
            there.takeOver(other.there);
            kind.takeOver(other.kind);
            fields.takeOver(other.fields);
            held.takeOver(other.held);
            referent.takeOver(other.referent);
            wish.takeOver(other.wish);
            address.takeOver(other.address);
            age.takeOver(other.age);
        }

        /** Names come by rising numbers, so the row of those that are there stays in order. */
        void come(int name, int kindOfIt, int howManyFields, int addressOfIt) {
            there.add(name);
            kind.put(name, kindOfIt);
            fields.put(name, howManyFields);
            for (int field = 0; field < MOST_FIELDS; field++) {
                held.put(name * MOST_FIELDS + field, NONE);
            }
            referent.put(name, NONE);
            wish.put(name, NO_WISH);
            address.put(name, addressOfIt);
            age.put(name, 0);
        }

        void go(int name) {
            there.removeAt(there.placeOf(name));
            address.put(name, NONE);
        }

        boolean isThere(int name) {
            return address.at(name) != NONE;
        }

        boolean isReference(int name) {
            return kind.at(name) != PLAIN;
        }

        int cellsOf(int name) {
            return kind.at(name) == PLAIN ? fields.at(name) + 1 : REFERENCE_CELLS;
        }

        boolean hasField(int name, int field) {
            return field >= 0 && field < fields.at(name);
        }

        /** NONE for a field that it has not, for that is never written. */
        int heldBy(int name, int field) {
            return field >= 0 && field < MOST_FIELDS
                    ? held.at(name * MOST_FIELDS + field) : NONE;
        }

        void hold(int name, int field, int value) {
            if (hasField(name, field)) {
                held.put(name * MOST_FIELDS + field, value);
            }
        }

        void makeYoungest() {
            for (int i = 0; i < there.length(); i++) {
                age.put(there.at(i), 0);
            }
        }

        int fieldsOf(Row names) {
            int together = 0;
            for (int i = 0; i < names.length(); i++) {
                together += fields.at(names.at(i));
            }
            return together;
        }

        int cellsOfAll(Row names) {
            int together = 0;
            for (int i = 0; i < names.length(); i++) {
                together += cellsOf(names.at(i));
            }
            return together;
        }
    }

    /** The locals of all frames, the queue and those whose last wish is to be heard. */
    private static final class Roots {
        final Row locals = new Row(MOST_FRAMES * LOCALS);
        final Row queue = new Row(MOST_SIZE);
        final Row pending = new Row(MOST_SIZE);

        void beginAnew() {
            locals.fill(LOCALS, NONE);
            queue.cut(0);
            pending.cut(0);
        }

        void takeOver(Roots other) {
            locals.takeOver(other.locals);
            queue.takeOver(other.queue);
            pending.takeOver(other.pending);
        }

        int frames() {
            return locals.length() / LOCALS;
        }

        void addFrame() {
            for (int slot = 0; slot < LOCALS; slot++) {
                locals.add(NONE);
            }
        }

        void dropFrame() {
            locals.cut(locals.length() - LOCALS);
        }

        int placeInTop(int slot) {
            return locals.length() - LOCALS + slot;
        }

        void putTop(int slot, int name) {
            locals.put(placeInTop(slot), name);
        }

        int howMany() {
            return locals.length() + queue.length() + pending.length();
        }

        int at(int place) {
            if (place < locals.length()) {
                return locals.at(place);
            }
            int behindLocals = place - locals.length();
            return behindLocals < queue.length()
                    ? queue.at(behindLocals) : pending.at(behindLocals - queue.length());
        }
    }

    /** Colours by names, the row of grey ones, and the barriers (which stand without a cycle too). */
    private static final class Cycle {
        final Row colour = new Row(MOST_NAMES);
        final Row row = new Row(MOST_SIZE);
        boolean isGoing;
        boolean isGuarded;
        int storeBarrier;
        boolean isReadBarrier;

        Cycle() {
            colour.fill(MOST_NAMES, WHITE);
        }

        void beginAnew() {
            breakOff();
            storeBarrier = STORE_NONE;
            isReadBarrier = false;
        }

        void takeOver(Cycle other) {
            colour.takeOver(other.colour);
            row.takeOver(other.row);
            isGoing = other.isGoing;
            isGuarded = other.isGuarded;
            storeBarrier = other.storeBarrier;
            isReadBarrier = other.isReadBarrier;
        }

        void start(Row there) {
            for (int i = 0; i < there.length(); i++) {
                colour.put(there.at(i), WHITE);
            }
            row.cut(0);
            isGoing = true;
            isGuarded = storeBarrier != STORE_NONE || isReadBarrier;
        }

        void breakOff() {
            row.cut(0);
            isGoing = false;
            isGuarded = false;
        }

        int changeBarriers(int store, boolean isRead) {
            int before = storeBarrier;
            if (store != storeBarrier || isRead != isReadBarrier) {
                isGuarded = false;
            }
            storeBarrier = store;
            isReadBarrier = isRead;
            return before;
        }

        /** Returns whether it was white. */
        boolean becomeGrey(int name) {
            if (!isGoing || name == NONE || colour.at(name) != WHITE) {
                return false;
            }
            colour.put(name, GREY);
            row.add(name);
            return true;
        }

        int blackenFirst() {
            int name = row.takeFirst();
            colour.put(name, BLACK);
            return name;
        }

        void seeNamed(int name) {
            if (isReadBarrier) {
                becomeGrey(name);
            }
        }

        void seeStored(int value, int before) {
            if (storeBarrier == STORE_NEW) {
                becomeGrey(value);
            } else if (storeBarrier == STORE_OLD) {
                becomeGrey(before);
            }
        }
    }

    /** All that a picture holds. */
    private static final class Heap {
        final Things things = new Things();
        final Roots roots = new Roots();
        final Cycle cycle = new Cycle();
        int cells;
        int keeper;
        int half;

        void beginAnew(int howManyCells) {
            things.beginAnew();
            roots.beginAnew();
            cycle.beginAnew();
            cells = howManyCells;
            keeper = FIRST;
            half = 0;
        }

        void takeOver(Heap other) {
            things.takeOver(other.things);
            roots.takeOver(other.roots);
            cycle.takeOver(other.cycle);
            cells = other.cells;
            keeper = other.keeper;
            half = other.half;
        }

        int halfCells() {
            return cells / 2;
        }

        int youngCells() {
            return cells / 4;
        }

        boolean isYoung(int name) {
            int address = things.address.at(name);
            return keeper == YOUNG && address != NONE && address < youngCells();
        }

        boolean isRemembered(int name) {
            if (keeper != YOUNG || isYoung(name)) {
                return false;
            }
            for (int field = 0; field < things.fields.at(name); field++) {
                if (isYoung(things.heldBy(name, field))) {
                    return true;
                }
            }
            return false;
        }

        int howManyRemembered() {
            int many = 0;
            for (int i = 0; i < things.there.length(); i++) {
                many += isRemembered(things.there.at(i)) ? 1 : 0;
            }
            return many;
        }
    }

    /** Those that one comes to, in the order in which one comes to them. */
    private static final class Walk {
        private final Heap heap;
        final Row order = new Row(MOST_SIZE);
        final Row number = new Row(MOST_NAMES);
        final Row distance = new Row(MOST_NAMES);
        final Row ahead = new Row(MOST_NAMES);

        Walk(Heap heap) {
            this.heap = heap;
            number.fill(MOST_NAMES, NONE);
            distance.fill(MOST_NAMES, NONE);
            ahead.fill(MOST_NAMES, NONE);
        }

        void clear() {
            for (int i = 0; i < order.length(); i++) {
                number.put(order.at(i), NONE);
            }
            order.cut(0);
        }

        boolean has(int name) {
            return number.at(name) != NONE;
        }

        /** Without one ahead the distance is 0, for NONE has the distance NONE. */
        void come(int oneAhead, int name) {
            if (name == NONE || number.at(name) != NONE) {
                return;
            }
            number.put(name, order.length());
            order.add(name);
            ahead.put(name, oneAhead);
            distance.put(name, distance.at(oneAhead) + 1);
        }

        void comeToRoots() {
            for (int i = 0; i < heap.roots.howMany(); i++) {
                come(NONE, heap.roots.at(i));
            }
        }

        void comeToLocals() {
            for (int place = 0; place < heap.roots.locals.length(); place++) {
                come(NONE, heap.roots.locals.at(place));
            }
        }

        void reach() {
            clear();
            comeToLocals();
            follow(false);
        }

        /** Comes to all that these lead to; the row grows as one goes along it. */
        void follow(boolean isSoftLeading) {
            for (int i = 0; i < order.length() && i < MOST_SIZE; i++) {
                int name = order.at(i);
                for (int field = 0; field < heap.things.fields.at(name); field++) {
                    come(name, heap.things.heldBy(name, field));
                }
                if (isSoftLeading && heap.things.kind.at(name) == SOFT) {
                    come(name, heap.things.referent.at(name));
                }
            }
        }

        void comeIfYoung(int name) {
            if (heap.isYoung(name)) {
                come(NONE, name);
            }
        }

        void comeToYoungHeldBy(int name) {
            for (int field = 0; field < heap.things.fields.at(name); field++) {
                comeIfYoung(heap.things.heldBy(name, field));
            }
        }

        /**
         * Reaches all so that the one ahead of each is that of its smallest shortest way: what is
         * found from one stands by rising names, so ways of a length stand in their order too.
         */
        void reachByNames() {
            clear();
            comeToLocals();
            sortFrom(0);
            for (int i = 0; i < order.length() && i < MOST_SIZE; i++) {
                int name = order.at(i);
                int begin = order.length();
                for (int field = 0; field < heap.things.fields.at(name); field++) {
                    come(name, heap.things.heldBy(name, field));
                }
                sortFrom(begin);
            }
        }

        private void sortFrom(int begin) {
            for (int i = begin + 1; i < order.length(); i++) {
                int name = order.at(i);
                int place = i;
                while (place > begin && order.at(place - 1) > name) {
                    order.put(place, order.at(place - 1));
                    place--;
                }
                order.put(place, name);
            }
        }
    }

    /** The cells: which are free, and where an object lies or would lie. */
    private static final class Room {
        private final Heap heap;
        private final Row owner = new Row(MOST_SIZE);
        final Row byAddress = new Row(MOST_SIZE);
        final Row rangeBegin = new Row(MOST_SIZE);
        final Row rangeLength = new Row(MOST_SIZE);

        Room(Heap heap) {
            this.heap = heap;
        }

        /** Finds anew who has each cell, the objects by rising addresses, and the ranges. */
        void look() {
            Things things = heap.things;
            owner.fill(heap.cells, NONE);
            for (int i = 0; i < things.there.length(); i++) {
                int name = things.there.at(i);
                int address = things.address.at(name);
                int end = address + things.cellsOf(name);
                for (int cell = address; cell < end; cell++) {
                    owner.put(cell, name);
                }
            }
            byAddress.cut(0);
            rangeBegin.cut(0);
            rangeLength.cut(0);
            for (int cell = 0; cell < heap.cells; cell++) {
                int name = owner.at(cell);
                if (name == NONE) {
                    addFreeCell(cell);
                } else if (things.address.at(name) == cell) {
                    byAddress.add(name);
                }
            }
        }

        private void addFreeCell(int cell) {
            int last = rangeBegin.length() - 1;
            if (last >= 0 && rangeBegin.at(last) + rangeLength.at(last) == cell) {
                rangeLength.more(last, 1);
            } else {
                rangeBegin.add(cell);
                rangeLength.add(1);
            }
        }

        int freeCells() {
            look();
            int many = 0;
            for (int i = 0; i < rangeLength.length(); i++) {
                many += rangeLength.at(i);
            }
            return many;
        }

        int longestRange() {
            look();
            int longest = 0;
            for (int i = 0; i < rangeLength.length(); i++) {
                longest = Math.max(longest, rangeLength.at(i));
            }
            return longest;
        }

        int placeFor(int cells) {
            look();
            switch (heap.keeper) {
                case BEST:
                    return bestRange(cells);
                case HALVES:
                    int begin = heap.half * heap.halfCells();
                    return behindLast(begin, begin + heap.halfCells(), cells);
                case SLIDE:
                    return behindLast(0, heap.cells, cells);
                case YOUNG:
                    int young = behindLast(0, heap.youngCells(), cells);
                    return young != NONE ? young : firstRange(heap.youngCells(), cells);
                default:
                    return firstRange(0, cells);
            }
        }

        boolean isYoungPlaceFor(int cells) {
            look();
            return behindLast(0, heap.youngCells(), cells) != NONE;
        }

        int oldPlaceFor(int cells) {
            look();
            return firstRange(heap.youngCells(), cells);
        }

        /** A range that goes on over that begin is cut there. */
        private int firstRange(int begin, int cells) {
            for (int i = 0; i < rangeBegin.length(); i++) {
                int end = rangeBegin.at(i) + rangeLength.at(i);
                int place = Math.max(rangeBegin.at(i), begin);
                if (end - place >= cells) {
                    return place;
                }
            }
            return NONE;
        }

        private int bestRange(int cells) {
            int best = NONE;
            int shortest = MOST_SIZE + 1;
            for (int i = 0; i < rangeBegin.length(); i++) {
                int length = rangeLength.at(i);
                if (length >= cells && length < shortest) {
                    best = rangeBegin.at(i);
                    shortest = length;
                }
            }
            return best;
        }

        private int behindLast(int begin, int end, int cells) {
            int place = begin;
            for (int cell = begin; cell < end; cell++) {
                if (owner.at(cell) != NONE) {
                    place = cell + 1;
                }
            }
            return place + cells <= end ? place : NONE;
        }

        /** Lays all one behind the other as that keeper wants it; returns whether they have room. */
        boolean layAll(int keeper) {
            look();
            int begin = keeper == YOUNG ? heap.youngCells() : 0;
            int end = keeper == HALVES ? heap.halfCells() : heap.cells;
            if (begin + heap.things.cellsOfAll(byAddress) > end) {
                return false;
            }
            int address = begin;
            for (int i = 0; i < byAddress.length(); i++) {
                int name = byAddress.at(i);
                heap.things.address.put(name, address);
                address += heap.things.cellsOf(name);
            }
            return true;
        }
    }

    /** How many hold each object, and how many refer to it. */
    private static final class Counts {
        private final Heap heap;
        final Row count = new Row(MOST_NAMES);
        private final Row referred = new Row(MOST_NAMES);

        Counts(Heap heap) {
            this.heap = heap;
            count.fill(MOST_NAMES, 0);
            referred.fill(MOST_NAMES, 0);
        }

        void reckon() {
            Row there = heap.things.there;
            for (int i = 0; i < there.length(); i++) {
                count.put(there.at(i), 0);
                referred.put(there.at(i), 0);
            }
            for (int i = 0; i < heap.roots.howMany(); i++) {
                count.more(heap.roots.at(i), 1);
            }
            for (int i = 0; i < there.length(); i++) {
                addHolds(there.at(i), 1);
            }
        }

        private void addHolds(int name, int by) {
            for (int field = 0; field < heap.things.fields.at(name); field++) {
                count.more(heap.things.heldBy(name, field), by);
            }
            referred.more(heap.things.referent.at(name), by);
        }

        int firstToGo() {
            Row there = heap.things.there;
            for (int i = 0; i < there.length(); i++) {
                int name = there.at(i);
                if (count.at(name) == 0 && referred.at(name) == 0
                        && heap.things.wish.at(name) == NO_WISH) {
                    return name;
                }
            }
            return NONE;
        }

        /** Lets go what nothing holds; returns how many went. */
        int release() {
            reckon();
            int went = 0;
            for (int turn = 0; turn < MOST_SIZE; turn++) {
                int name = firstToGo();
                if (name == NONE) {
                    break;
                }
                addHolds(name, -1);
                heap.things.go(name);
                went++;
            }
            return went;
        }
    }

    /** Whole and small collections, and cycles. */
    private static final class Collector {
        private final Heap heap;
        private final Row tally;
        private final Room room;
        private final Walk seen;
        final Walk kept;
        private final Row young = new Row(MOST_SIZE);

        Collector(Heap heap, Row tally, Room room) {
            this.heap = heap;
            this.tally = tally;
            this.room = room;
            seen = new Walk(heap);
            kept = new Walk(heap);
        }

        // ---- whole collections

        int collectWhole(boolean isHard) {
            planWhole(isHard);
            int cost = costAs(heap.keeper);
            int went = carryOut();
            if (heap.keeper == HALVES) {
                copyToOtherHalf(isHard);
            } else if (heap.keeper == SLIDE || heap.keeper == YOUNG) {
                slideDown();
            }
            heap.cycle.breakOff();
            tally.more(WHOLES, 1);
            spend(cost);
            return went;
        }

        /** Finds what is seen and what would be kept, and changes nothing. */
        void planWhole(boolean isHard) {
            seen.clear();
            seen.comeToRoots();
            seen.follow(!isHard);
            planKept(isHard);
        }

        /** What has a last wish and is not seen will be pending, and so a root. */
        private void planKept(boolean isHard) {
            kept.clear();
            kept.comeToRoots();
            for (int i = 0; i < seen.order.length(); i++) {
                kept.come(NONE, seen.order.at(i));
            }
            for (int i = 0; i < heap.things.there.length(); i++) {
                int name = heap.things.there.at(i);
                if (isWishToHear(name)) {
                    kept.come(NONE, name);
                }
            }
            kept.follow(!isHard);
        }

        private boolean isWishToHear(int name) {
            return heap.things.wish.at(name) == WISH && !seen.has(name);
        }

        /** COST of the collection that was planned, as long as it is not carried out. */
        int costAs(int kind) {
            Things things = heap.things;
            int objects = things.there.length();
            int many = kept.order.length();
            int fields = things.fieldsOf(kept.order);
            int cells = things.cellsOfAll(kept.order);
            switch (kind) {
                case HALVES:
                    return cells + fields;
                case SLIDE:
                    return many + fields + objects + cells;
                case COUNTS:
                    return 2 * (objects + things.fieldsOf(things.there)) + objects - many;
                default:
                    return many + fields + objects;
            }
        }

        /** From the clearing of what is seen on to the going; returns how many went. */
        private int carryOut() {
            Row there = heap.things.there;
            for (int i = 0; i < there.length(); i++) {
                int name = there.at(i);
                if (heap.things.kind.at(name) != LAST && isToClear(name, seen)) {
                    clearReference(name);
                }
            }
            for (int i = 0; i < there.length(); i++) {
                int name = there.at(i);
                if (isWishToHear(name)) {
                    heap.roots.pending.add(name);
                    heap.things.wish.put(name, IS_PENDING);
                }
            }
            for (int i = 0; i < there.length(); i++) {
                if (isToClear(there.at(i), kept)) {
                    clearReference(there.at(i));
                }
            }
            return dropOthers(false);
        }

        /** A cleared one, and one that is plain, has no referent. */
        private boolean isToClear(int name, Walk walk) {
            int referent = heap.things.referent.at(name);
            return referent != NONE && walk.has(name) && !walk.has(referent);
        }

        private void clearReference(int name) {
            heap.things.referent.put(name, NONE);
            heap.roots.queue.add(name);
            tally.more(CLEARED, 1);
        }

        /** Drops what is not kept (or of this the young ones alone); returns how many went. */
        private int dropOthers(boolean isYoungAlone) {
            Row there = heap.things.there;
            int went = 0;
            for (int i = there.length() - 1; i >= 0; i--) {
                int name = there.at(i);
                if (!kept.has(name) && (!isYoungAlone || heap.isYoung(name))) {
                    heap.things.go(name);
                    went++;
                }
            }
            tally.more(WENT, went);
            return went;
        }

        /** Walks again, for the queue has become longer since. */
        private void copyToOtherHalf(boolean isHard) {
            kept.clear();
            kept.comeToRoots();
            kept.follow(!isHard);
            heap.half = 1 - heap.half;
            int address = heap.half * heap.halfCells();
            for (int i = 0; i < kept.order.length(); i++) {
                moveTo(kept.order.at(i), address);
                address += heap.things.cellsOf(kept.order.at(i));
            }
        }

        private void slideDown() {
            room.look();
            int address = 0;
            for (int i = 0; i < room.byAddress.length(); i++) {
                int name = room.byAddress.at(i);
                if (heap.keeper == SLIDE || heap.isYoung(name)) {
                    moveTo(name, address);
                    address += heap.things.cellsOf(name);
                }
            }
        }

        private void moveTo(int name, int address) {
            if (heap.things.address.at(name) != address) {
                tally.more(MOVED, 1);
            }
            heap.things.address.put(name, address);
        }

        private void spend(int cost) {
            tally.more(SPENT, cost);
            tally.put(DEAREST, Math.max(tally.at(DEAREST), cost));
        }

        // ---- small collections

        int collectYoung() {
            planYoung();
            int cost = kept.order.length() + heap.things.fieldsOf(kept.order)
                    + heap.howManyRemembered();
            int went = dropOthers(true);
            growOlder();
            tally.more(SMALLS, 1);
            spend(cost);
            return went;
        }

        private void planYoung() {
            Things things = heap.things;
            kept.clear();
            for (int i = 0; i < heap.roots.howMany(); i++) {
                kept.comeIfYoung(heap.roots.at(i));
            }
            for (int i = 0; i < things.there.length(); i++) {
                int name = things.there.at(i);
                kept.comeIfYoung(things.referent.at(name));
                if (!heap.isYoung(name)) {
                    kept.comeToYoungHeldBy(name);
                } else if (things.isReference(name) || things.wish.at(name) != NO_WISH) {
                    kept.come(NONE, name);
                }
            }
            for (int i = 0; i < kept.order.length() && i < MOST_SIZE; i++) {
                kept.comeToYoungHeldBy(kept.order.at(i));
            }
        }

        private void growOlder() {
            room.look();
            findYoung();
            int address = 0;
            for (int i = 0; i < young.length(); i++) {
                int name = young.at(i);
                int cells = heap.things.cellsOf(name);
                heap.things.age.more(name, 1);
                int old = heap.things.age.at(name) >= OLD_AGE ? room.oldPlaceFor(cells) : NONE;
                if (old != NONE) {
                    moveTo(name, old);
                } else {
                    moveTo(name, address);
                    address += cells;
                }
            }
        }

        /** A row of its own, for each look for an old place finds the order anew. */
        private void findYoung() {
            young.cut(0);
            for (int i = 0; i < room.byAddress.length(); i++) {
                if (heap.isYoung(room.byAddress.at(i))) {
                    young.add(room.byAddress.at(i));
                }
            }
        }

        // ---- cycles

        void startCycle() {
            heap.cycle.start(heap.things.there);
            greyRoots();
        }

        /** Returns whether one of them was white. */
        private boolean greyRoots() {
            boolean isOneWhite = false;
            for (int i = 0; i < heap.roots.howMany(); i++) {
                if (heap.cycle.becomeGrey(heap.roots.at(i))) {
                    isOneWhite = true;
                }
            }
            return isOneWhite;
        }

        int goOn(int budget) {
            int work = 0;
            // Each turn is work of 1 at least, so there are no more turns than the greatest budget.
            for (int turn = 0; turn < MOST_BUDGET && work < budget && heap.cycle.isGoing; turn++) {
                if (heap.cycle.row.length() > 0) {
                    work += 1 + blackenNext();
                } else {
                    work++;
                    if (!greyRoots()) {
                        work += heap.things.there.length();
                        endCycle();
                    }
                }
            }
            spend(work);
            return work;
        }

        /** Returns how many fields it has. */
        private int blackenNext() {
            Things things = heap.things;
            int name = heap.cycle.blackenFirst();
            int fields = things.fields.at(name);
            for (int field = 0; field < fields; field++) {
                heap.cycle.becomeGrey(things.heldBy(name, field));
            }
            if (things.kind.at(name) == SOFT) {
                heap.cycle.becomeGrey(things.referent.at(name));
            }
            return fields;
        }

        private void endCycle() {
            tally.more(heap.cycle.isGuarded ? LOST_GUARDED : LOST_OTHERS, howManyLost());
            tally.more(CYCLES, 1);
            seen.clear();
            for (int i = 0; i < heap.things.there.length(); i++) {
                int name = heap.things.there.at(i);
                if (heap.cycle.colour.at(name) == BLACK) {
                    seen.come(NONE, name);
                }
            }
            seen.comeToRoots();
            seen.follow(true);
            planKept(false);
            carryOut();
            heap.cycle.breakOff();
        }

        private int howManyLost() {
            int lost = 0;
            seen.reach();
            for (int i = 0; i < seen.order.length(); i++) {
                lost += heap.cycle.colour.at(seen.order.at(i)) != BLACK ? 1 : 0;
            }
            return lost;
        }
    }

    /** The texts, all written into one builder, so that the digest may measure them unmade. */
    private static final class Teller {
        private final Heap heap;
        private final Walk walk;
        private final Room room;
        private final Collector collector;
        private final StringBuilder builder = new StringBuilder();
        private final Row way = new Row(MOST_SIZE);

        Teller(Heap heap, Walk walk, Room room, Collector collector) {
            this.heap = heap;
            this.walk = walk;
            this.room = room;
            this.collector = collector;
        }

        String text() {
            return builder.toString();
        }

        int signs() {
            return builder.length();
        }

        boolean isText(String other) {
            if (other.length() != builder.length()) {
                return false;
            }
            for (int i = 0; i < builder.length(); i++) {
                if (builder.charAt(i) != other.charAt(i)) {
                    return false;
                }
            }
            return true;
        }

        private void clear() {
            builder.setLength(0);
        }

        private void addWord(int number) {
            if (builder.length() > 0) {
                builder.append(' ');
            }
            builder.append(number);
        }

        private void addNames(Row names) {
            for (int i = 0; i < names.length(); i++) {
                if (i > 0) {
                    builder.append(' ');
                }
                builder.append(names.at(i));
            }
        }

        private void addNumberOf(int name) {
            if (walk.has(name)) {
                builder.append(walk.number.at(name));
            } else {
                builder.append('-');
            }
        }

        void tellShape() {
            clear();
            walk.reach();
            for (int place = 0; place < heap.roots.locals.length(); place++) {
                if (place > 0 && place % LOCALS == 0) {
                    builder.append(' ');
                }
                addNumberOf(heap.roots.locals.at(place));
            }
            for (int i = 0; i < walk.order.length(); i++) {
                addShapeOf(walk.order.at(i));
            }
        }

        private void addShapeOf(int name) {
            addWord(heap.things.kind.at(name));
            builder.append('[');
            for (int field = 0; field < heap.things.fields.at(name); field++) {
                if (field > 0) {
                    builder.append(',');
                }
                addNumberOf(heap.things.heldBy(name, field));
            }
            builder.append(']');
        }

        void tellPath(int object) {
            clear();
            walk.reachByNames();
            if (!walk.has(object)) {
                return;
            }
            // The way is known from its end on alone.
            way.fill(walk.distance.at(object) + 1, NONE);
            int name = object;
            for (int i = way.length() - 1; i >= 0; i--) {
                way.put(i, name);
                name = walk.ahead.at(name);
            }
            for (int i = 0; i < way.length(); i++) {
                if (i > 0) {
                    builder.append('>');
                }
                builder.append(way.at(i));
            }
        }

        void tellRow() {
            clear();
            room.look();
            for (int i = 0; i < room.byAddress.length(); i++) {
                int name = room.byAddress.at(i);
                addWord(heap.things.address.at(name));
                builder.append(':');
                builder.append(name);
            }
        }

        void tellFree() {
            clear();
            room.look();
            for (int i = 0; i < room.rangeBegin.length(); i++) {
                addWord(room.rangeBegin.at(i));
                builder.append('+');
                builder.append(room.rangeLength.at(i));
            }
        }

        void tellGoing(boolean isHard) {
            clear();
            collector.planWhole(isHard);
            for (int i = 0; i < heap.things.there.length(); i++) {
                int name = heap.things.there.at(i);
                if (!collector.kept.has(name)) {
                    addWord(name);
                }
            }
        }

        void tellWaiting() {
            clear();
            addNames(heap.roots.queue);
            builder.append(';');
            addNames(heap.roots.pending);
        }

        void tellRemembered() {
            clear();
            for (int i = 0; i < heap.things.there.length(); i++) {
                int name = heap.things.there.at(i);
                if (heap.isRemembered(name)) {
                    addWord(name);
                }
            }
        }

        void tellGrey() {
            clear();
            addNames(heap.cycle.row);
        }

        void tellUnseen() {
            clear();
            if (!heap.cycle.isGoing) {
                return;
            }
            walk.clear();
            comeToHeldByBlack();
            for (int i = 0; i < heap.things.there.length(); i++) {
                int name = heap.things.there.at(i);
                if (walk.has(name) && heap.cycle.colour.at(name) == WHITE) {
                    addWord(name);
                }
            }
        }

        private void comeToHeldByBlack() {
            for (int i = 0; i < heap.things.there.length(); i++) {
                int name = heap.things.there.at(i);
                if (heap.cycle.colour.at(name) == BLACK) {
                    for (int field = 0; field < heap.things.fields.at(name); field++) {
                        walk.come(NONE, heap.things.heldBy(name, field));
                    }
                }
            }
        }
    }

    /** Looks whether the heap is in order, in ways of its own where it can. */
    private static final class Audit {
        private final Heap heap;
        private final Counts counts;
        private final Row isCellTaken = new Row(MOST_SIZE);
        private final Row isFound = new Row(MOST_NAMES);

        Audit(Heap heap, Counts counts) {
            this.heap = heap;
            this.counts = counts;
            isFound.fill(MOST_NAMES, 0);
        }

        boolean isAllRight(int reached, int freeCells) {
            return isEachCellOfOne() && isAllHeldThere()
                    && howManyFound() == reached && isNoneToGo()
                    && freeCells + heap.things.cellsOfAll(heap.things.there) == heap.cells;
        }

        private boolean isEachCellOfOne() {
            Things things = heap.things;
            isCellTaken.fill(heap.cells, 0);
            for (int i = 0; i < things.there.length(); i++) {
                int name = things.there.at(i);
                for (int cell = 0; cell < things.cellsOf(name); cell++) {
                    int place = things.address.at(name) + cell;
                    if (isCellTaken.at(place) != 0) {
                        return false;
                    }
                    isCellTaken.put(place, 1);
                }
            }
            return true;
        }

        private boolean isAllHeldThere() {
            for (int i = 0; i < heap.roots.howMany(); i++) {
                if (!isThereOrNone(heap.roots.at(i))) {
                    return false;
                }
            }
            for (int i = 0; i < heap.things.there.length(); i++) {
                if (!holdsWhatIsThere(heap.things.there.at(i))) {
                    return false;
                }
            }
            return true;
        }

        private boolean isThereOrNone(int name) {
            return name == NONE || heap.things.isThere(name);
        }

        private boolean holdsWhatIsThere(int name) {
            for (int field = 0; field < heap.things.fields.at(name); field++) {
                if (!isThereOrNone(heap.things.heldBy(name, field))) {
                    return false;
                }
            }
            return isThereOrNone(heap.things.referent.at(name));
        }

        /** Goes through all fields again and again, till nothing new comes. */
        private int howManyFound() {
            Row there = heap.things.there;
            for (int i = 0; i < there.length(); i++) {
                isFound.put(there.at(i), 0);
            }
            int found = 0;
            for (int place = 0; place < heap.roots.locals.length(); place++) {
                found += find(heap.roots.locals.at(place));
            }
            for (int turn = 0; turn <= MOST_SIZE; turn++) {
                int before = found;
                for (int i = 0; i < there.length(); i++) {
                    found += findHeldBy(there.at(i));
                }
                if (found == before) {
                    break;
                }
            }
            return found;
        }

        private int findHeldBy(int name) {
            int found = 0;
            if (isFound.at(name) == 1) {
                for (int field = 0; field < heap.things.fields.at(name); field++) {
                    found += find(heap.things.heldBy(name, field));
                }
            }
            return found;
        }

        private int find(int name) {
            if (isFound.at(name) != 0) {
                return 0;
            }
            isFound.put(name, 1);
            return 1;
        }

        private boolean isNoneToGo() {
            if (heap.keeper != COUNTS) {
                return true;
            }
            counts.reckon();
            return counts.firstToGo() == NONE;
        }
    }
}
