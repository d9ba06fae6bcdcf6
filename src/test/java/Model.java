import java.util.ArrayDeque;
import java.util.ArrayList;
import java.util.Collection;
import java.util.Comparator;
import java.util.HashMap;
import java.util.HashSet;
import java.util.IdentityHashMap;
import java.util.LinkedHashSet;
import java.util.List;
import java.util.Map;
import java.util.Set;
import java.util.StringJoiner;
import java.util.TreeMap;

/**
 * The document read a second time, with objects that hold objects, and slowly: what is asked about
 * a collection is found by making it in a copy of all. Heapkeep is compared with this.
 */
final class Model {
    static final class Thing {
        final int name;
        final int kind;
        int address;
        int age;
        int colour;
        boolean hasWish;
        final Thing[] fields;
        Thing referent;

        Thing(int name, int kind, int fields) {
            this.name = name;
            this.kind = kind;
            this.fields = new Thing[fields];
        }

        int cells() {
            return kind == 0 ? 1 + fields.length : 2;
        }
    }

    static final class World {
        final TreeMap<Integer, Thing> things = new TreeMap<>();
        final List<Thing[]> frames = new ArrayList<>();
        final List<Thing> queue = new ArrayList<>();
        final List<Thing> pending = new ArrayList<>();
        final List<Thing> grey = new ArrayList<>();
        int size;
        int keeper;
        int half;
        boolean cycle;
        boolean guarded;
        int store;
        boolean read;

        World copy() {
            World w = new World();
            Map<Thing, Thing> twin = new IdentityHashMap<>();
            for (Thing t : things.values()) {
                Thing c = new Thing(t.name, t.kind, t.fields.length);
                c.address = t.address;
                c.age = t.age;
                c.colour = t.colour;
                c.hasWish = t.hasWish;
                twin.put(t, c);
                w.things.put(t.name, c);
            }
            for (Thing t : things.values()) {
                Thing c = twin.get(t);
                for (int i = 0; i < t.fields.length; i++) {
                    c.fields[i] = t.fields[i] == null ? null : must(twin.get(t.fields[i]));
                }
                c.referent = t.referent == null ? null : must(twin.get(t.referent));
            }
            for (Thing[] frame : frames) {
                Thing[] f = new Thing[4];
                for (int i = 0; i < 4; i++) {
                    f[i] = frame[i] == null ? null : must(twin.get(frame[i]));
                }
                w.frames.add(f);
            }
            for (Thing t : queue) {
                w.queue.add(must(twin.get(t)));
            }
            for (Thing t : pending) {
                w.pending.add(must(twin.get(t)));
            }
            for (Thing t : grey) {
                w.grey.add(must(twin.get(t)));
            }
            w.size = size;
            w.keeper = keeper;
            w.half = half;
            w.cycle = cycle;
            w.guarded = guarded;
            w.store = store;
            w.read = read;
            return w;
        }

        private static Thing must(Thing t) {
            if (t == null) {
                throw new AssertionError("something holds what is gone");
            }
            return t;
        }

        List<Thing> roots() {
            List<Thing> all = new ArrayList<>();
            for (Thing[] frame : frames) {
                for (Thing t : frame) {
                    if (t != null) {
                        all.add(t);
                    }
                }
            }
            all.addAll(queue);
            all.addAll(pending);
            return all;
        }

        List<Thing> held() {
            List<Thing> all = new ArrayList<>();
            for (Thing[] frame : frames) {
                for (Thing t : frame) {
                    if (t != null) {
                        all.add(t);
                    }
                }
            }
            return all;
        }

        Set<Thing> reached() {
            return closure(held(), true);
        }

        static List<Thing> leads(Thing t, boolean hard) {
            List<Thing> all = new ArrayList<>();
            for (Thing f : t.fields) {
                if (f != null) {
                    all.add(f);
                }
            }
            if (t.kind == 2 && !hard && t.referent != null) {
                all.add(t.referent);
            }
            return all;
        }

        static Set<Thing> closure(Collection<Thing> from, boolean hard) {
            Set<Thing> all = new LinkedHashSet<>(from);
            ArrayDeque<Thing> open = new ArrayDeque<>(all);
            while (!open.isEmpty()) {
                for (Thing t : leads(open.remove(), hard)) {
                    if (all.add(t)) {
                        open.add(t);
                    }
                }
            }
            return all;
        }

        List<Thing> byAddress() {
            List<Thing> all = new ArrayList<>(things.values());
            all.sort(Comparator.comparingInt(t -> t.address));
            return all;
        }

        boolean young(Thing t) {
            return keeper == 4 && t.address < size / 4;
        }

        boolean rememberedIs(Thing t) {
            if (keeper != 4 || young(t)) {
                return false;
            }
            for (Thing f : t.fields) {
                if (f != null && young(f)) {
                    return true;
                }
            }
            return false;
        }

        String cells() {
            char[] c = new char[size];
            java.util.Arrays.fill(c, '.');
            for (Thing t : things.values()) {
                for (int i = 0; i < t.cells(); i++) {
                    if (c[t.address + i] != '.') {
                        throw new AssertionError("a cell of two objects");
                    }
                    c[t.address + i] = 'x';
                }
            }
            return new String(c);
        }

        /** Ranges as pairs of begin and length. */
        List<int[]> ranges() {
            List<int[]> all = new ArrayList<>();
            java.util.regex.Matcher m = java.util.regex.Pattern.compile("\\.+").matcher(cells());
            while (m.find()) {
                all.add(new int[] {m.start(), m.end() - m.start()});
            }
            return all;
        }

        int behindLast(int from, int end, int need) {
            int at = from;
            for (Thing t : things.values()) {
                if (t.address >= from && t.address < end) {
                    at = Math.max(at, t.address + t.cells());
                }
            }
            return at + need <= end ? at : -1;
        }

        int firstIn(String cells, int from, int need) {
            return cells.indexOf(".".repeat(need), from);
        }

        int place(int need) {
            switch (keeper) {
                case 1: {
                    int[] best = null;
                    for (int[] r : ranges()) {
                        if (r[1] >= need && (best == null || r[1] < best[1])) {
                            best = r;
                        }
                    }
                    return best == null ? -1 : best[0];
                }
                case 2:
                    return behindLast(half * (size / 2), (half + 1) * (size / 2), need);
                case 3:
                    return behindLast(0, size, need);
                case 4: {
                    int at = behindLast(0, size / 4, need);
                    return at >= 0 ? at : firstIn(cells(), size / 4, need);
                }
                default:
                    return firstIn(cells(), 0, need);
            }
        }

        void becomeGrey(Thing t) {
            if (cycle && t != null && t.colour == 0) {
                t.colour = 1;
                grey.add(t);
            }
        }

        void breakOff() {
            cycle = false;
            guarded = false;
            grey.clear();
        }

        int count(Thing t) {
            int n = 0;
            for (Thing r : roots()) {
                n += r == t ? 1 : 0;
            }
            for (Thing o : things.values()) {
                for (Thing f : o.fields) {
                    n += f == t ? 1 : 0;
                }
            }
            return n;
        }

        boolean isReferent(Thing t) {
            for (Thing o : things.values()) {
                if (o.referent == t) {
                    return true;
                }
            }
            return false;
        }
    }

    private World w = new World();
    private World picture;
    private long[] counted = new long[10];
    private int told;
    private int knocks;
    private int[] costs = new int[7];

    Model() {
        size(64);
    }

    int told() {
        return told;
    }

    List<Integer> reachedNames() {
        List<Integer> names = new ArrayList<>();
        for (Thing t : w.reached()) {
            names.add(t.name);
        }
        return names;
    }

    List<Integer> referenceNames() {
        List<Integer> names = new ArrayList<>();
        for (Thing t : w.reached()) {
            if (t.kind != 0) {
                names.add(t.name);
            }
        }
        return names;
    }

    // ---- the calls

    public int size(int cells) {
        arg(cells >= 16 && cells <= 128);
        int before = w.size;
        w = new World();
        w.size = cells;
        w.frames.add(new Thing[4]);
        picture = null;
        counted = new long[10];
        told = 0;
        return before;
    }

    public int make(int slot, int fields, boolean isWish) {
        index(slot >= 0 && slot < 4);
        arg(fields >= 0 && fields <= 6);
        Thing t = bring(0, fields);
        t.hasWish = isWish;
        top()[slot] = t;
        settle();
        return t.name;
    }

    public int refer(int slot, int kind, int object) {
        index(slot >= 0 && slot < 4 && object >= 0 && object < told);
        arg(kind >= 1 && kind <= 3);
        state(isReached(object));
        Thing t = bring(kind, 0);
        // By its name, for if there was no room, all is a copy now.
        t.referent = w.things.get(object);
        if (w.read) {
            w.becomeGrey(t.referent);
        }
        top()[slot] = t;
        settle();
        return t.name;
    }

    public int local(int slot, int object) {
        return put(top(), slot, object);
    }

    public int global(int slot, int object) {
        return put(w.frames.get(0), slot, object);
    }

    private int put(Thing[] frame, int slot, int object) {
        index(slot >= 0 && slot < 4 && object >= -1 && object < told);
        state(object == -1 || isReached(object));
        Thing t = w.things.get(object);
        int before = name(frame[slot]);
        if (w.read) {
            w.becomeGrey(t);
        }
        frame[slot] = t;
        settle();
        return before;
    }

    public int store(int object, int field, int value) {
        index(object >= 0 && object < told && value >= -1 && value < told);
        index(field >= 0 && field < 6);
        state(isReached(object) && (value == -1 || isReached(value)));
        Thing t = w.things.get(object);
        Thing v = w.things.get(value);
        state(field < t.fields.length);
        Thing before = t.fields[field];
        if (w.read) {
            w.becomeGrey(t);
            w.becomeGrey(v);
        }
        if (w.store == 1) {
            w.becomeGrey(v);
        }
        if (w.store == 2) {
            w.becomeGrey(before);
        }
        t.fields[field] = v;
        int answer = name(before);
        settle();
        return answer;
    }

    public int load(int slot, int object, int field) {
        index(slot >= 0 && slot < 4 && object >= 0 && object < told && field >= 0 && field < 6);
        state(isReached(object));
        Thing t = w.things.get(object);
        state(field < t.fields.length);
        Thing found = t.fields[field];
        if (w.read) {
            w.becomeGrey(t);
            w.becomeGrey(found);
        }
        top()[slot] = found;
        int answer = name(found);
        settle();
        return answer;
    }

    public int get(int slot, int object) {
        index(slot >= 0 && slot < 4 && object >= 0 && object < told);
        state(isReached(object));
        Thing t = w.things.get(object);
        state(t.kind != 0);
        Thing found = t.kind == 3 ? null : t.referent;
        if (w.read) {
            w.becomeGrey(t);
        }
        w.becomeGrey(found);
        top()[slot] = found;
        int answer = name(found);
        settle();
        return answer;
    }

    public int enter() {
        state(w.frames.size() < 5);
        w.frames.add(new Thing[4]);
        settle();
        return w.frames.size();
    }

    public int leave() {
        state(w.frames.size() > 1);
        w.frames.remove(w.frames.size() - 1);
        settle();
        return w.frames.size();
    }

    public int keeper(int kind) {
        arg(kind >= 0 && kind <= 6);
        int total = 0;
        for (Thing t : w.things.values()) {
            total += t.cells();
        }
        int room = kind == 4 ? w.size - w.size / 4 : kind == 2 ? w.size / 2 : w.size;
        if (total > room) {
            return -9;
        }
        int before = w.keeper;
        int at = kind == 4 ? w.size / 4 : 0;
        for (Thing t : w.byAddress()) {
            t.address = at;
            at += t.cells();
            t.age = 0;
        }
        w.keeper = kind;
        w.half = 0;
        w.breakOff();
        settle();
        return before;
    }

    public int collect(boolean isHard) {
        int went = whole(isHard);
        settle();
        return went;
    }

    public int small() {
        return w.keeper == 4 ? smallOne() : -9;
    }

    public int begin() {
        if (w.keeper != 5) {
            return -9;
        }
        w.breakOff();
        w.cycle = true;
        w.guarded = w.store != 0 || w.read;
        for (Thing t : w.things.values()) {
            t.colour = 0;
        }
        for (Thing t : w.roots()) {
            w.becomeGrey(t);
        }
        return w.grey.size();
    }

    public int step(int budget) {
        arg(budget >= 1 && budget <= 60);
        if (!w.cycle) {
            return -9;
        }
        int work = 0;
        while (work < budget) {
            if (!w.grey.isEmpty()) {
                Thing t = w.grey.remove(0);
                t.colour = 2;
                for (Thing l : World.leads(t, false)) {
                    w.becomeGrey(l);
                }
                work += 1 + t.fields.length;
                continue;
            }
            work++;
            for (Thing t : w.roots()) {
                w.becomeGrey(t);
            }
            if (w.grey.isEmpty()) {
                work += w.things.size();
                endCycle();
                break;
            }
        }
        spend(work);
        return work;
    }

    public int barrier(int store, boolean isRead) {
        arg(store >= 0 && store <= 2);
        int before = w.store;
        w.guarded &= store == w.store && isRead == w.read;
        w.store = store;
        w.read = isRead;
        return before;
    }

    public int finish(int slot) {
        index(slot >= -1 && slot < 4);
        if (w.pending.isEmpty()) {
            return -1;
        }
        Thing t = w.pending.remove(0);
        t.hasWish = false;
        if (slot >= 0) {
            top()[slot] = t;
        }
        settle();
        return t.name;
    }

    public int poll() {
        if (w.queue.isEmpty()) {
            return -1;
        }
        Thing t = w.queue.remove(0);
        settle();
        return t.name;
    }

    public int keep() {
        picture = w.copy();
        return w.things.size();
    }

    public int back() {
        state(picture != null);
        w = picture.copy();
        return w.things.size();
    }

    public int same() {
        return picture == null ? -9 : shapeOf(picture).equals(shapeOf(w)) ? 1 : 0;
    }

    public String shape() {
        return shapeOf(w);
    }

    public int ofObject(int object, int what) {
        index(object >= 0 && object < told);
        arg(what >= 0 && what <= 10);
        Thing t = w.things.get(object);
        if (t == null) {
            return -9;
        }
        switch (what) {
            case 0: return t.kind;
            case 1: return t.fields.length;
            case 2: return t.address;
            case 3: return t.age;
            case 4: return w.count(t);
            case 5: return w.cycle ? t.colour : -1;
            case 6: return w.reached().contains(t) ? 1 : 0;
            case 7: return w.pending.contains(t) ? 2 : t.hasWish ? 1 : 0;
            case 8: return ways().containsKey(t) ? ways().get(t).size() - 1 : -1;
            case 9: return name(t.referent);
            default: return w.young(t) ? 1 : 0;
        }
    }

    public int field(int object, int field) {
        index(object >= 0 && object < told && field >= 0 && field < 6);
        Thing t = w.things.get(object);
        return t == null || field >= t.fields.length ? -9 : name(t.fields[field]);
    }

    public int localOf(int frame, int slot) {
        index(frame >= 0 && frame < w.frames.size() && slot >= 0 && slot < 4);
        return name(w.frames.get(frame)[slot]);
    }

    public String path(int object) {
        index(object >= 0 && object < told);
        List<Integer> way = ways().get(w.things.get(object));
        StringJoiner text = new StringJoiner(">");
        if (way != null) {
            way.forEach(n -> text.add("" + n));
        }
        return text.toString();
    }

    public String row() {
        StringJoiner text = new StringJoiner(" ");
        w.byAddress().forEach(t -> text.add(t.address + ":" + t.name));
        return text.toString();
    }

    public String free() {
        StringJoiner text = new StringJoiner(" ");
        w.ranges().forEach(r -> text.add(r[0] + "+" + r[1]));
        return text.toString();
    }

    public int fits(int cells) {
        arg(cells >= 1 && cells <= 7);
        return w.place(cells);
    }

    public String would(boolean isHard) {
        Set<Integer> before = new java.util.TreeSet<>(w.things.keySet());
        World now = w;
        long[] tally = counted.clone();
        w = w.copy();
        whole(isHard);
        before.removeAll(w.things.keySet());
        w = now;
        counted = tally;
        StringJoiner text = new StringJoiner(" ");
        before.forEach(n -> text.add("" + n));
        return text.toString();
    }

    public int cost(int kind) {
        arg(kind >= 0 && kind <= 6);
        would(false);
        return costs[kind];
    }

    public String waiting() {
        StringJoiner q = new StringJoiner(" ");
        StringJoiner p = new StringJoiner(" ");
        w.queue.forEach(t -> q.add("" + t.name));
        w.pending.forEach(t -> p.add("" + t.name));
        return q + ";" + p;
    }

    public String remembered() {
        StringJoiner text = new StringJoiner(" ");
        w.things.values().stream().filter(w::rememberedIs).forEach(t -> text.add("" + t.name));
        return text.toString();
    }

    public String grey() {
        StringJoiner text = new StringJoiner(" ");
        w.grey.forEach(t -> text.add("" + t.name));
        return text.toString();
    }

    public String unseen() {
        Set<Integer> names = new java.util.TreeSet<>();
        if (w.cycle) {
            for (Thing t : w.things.values()) {
                for (Thing f : t.fields) {
                    if (t.colour == 2 && f != null && f.colour == 0) {
                        names.add(f.name);
                    }
                }
            }
        }
        StringJoiner text = new StringJoiner(" ");
        names.forEach(n -> text.add("" + n));
        return text.toString();
    }

    public int house(int what) {
        arg(what >= 0 && what <= 12);
        int free = 0;
        int longest = 0;
        for (int[] r : w.ranges()) {
            free += r[1];
            longest = Math.max(longest, r[1]);
        }
        int[] all = {w.things.size(), told, w.size, w.keeper, w.frames.size(), free, longest,
            w.reached().size(), w.cycle ? 1 : 0, w.guarded ? 1 : 0, w.half, w.store, w.read ? 1 : 0};
        return all[what];
    }

    public int counted(int what) {
        arg(what >= 0 && what <= 9);
        return (int) counted[what];
    }

    public int knock() {
        return ++knocks;
    }

    public boolean isSound() {
        w.copy();
        w.cells();
        return counted[4] == 0;
    }

    public long digest() {
        List<Long> v = new ArrayList<>();
        for (int i = 0; i <= 12; i++) {
            v.add((long) house(i));
        }
        for (int i = 0; i <= 9; i++) {
            v.add((long) counted(i));
        }
        for (int n = 0; n < told; n++) {
            for (int i = 0; i <= 10; i++) {
                v.add((long) ofObject(n, i));
            }
            for (int i = 0; i <= 5; i++) {
                v.add((long) field(n, i));
            }
        }
        for (Thing[] frame : w.frames) {
            for (Thing t : frame) {
                v.add((long) name(t));
            }
        }
        for (String text : List.of(shape(), row(), free(), waiting(), remembered(), grey(),
                unseen(), would(false), would(true))) {
            v.add((long) text.length());
        }
        for (int i = 1; i <= 7; i++) {
            v.add((long) fits(i));
        }
        for (int i = 0; i <= 6; i++) {
            v.add((long) cost(i));
        }
        v.add((long) same());
        v.add(isSound() ? 1L : 0L);
        long d = 6100;
        for (long x : v) {
            d = d * 31 + x;
        }
        return d;
    }

    // ---- within

    private static void index(boolean isRight) {
        if (!isRight) {
            throw new IndexOutOfBoundsException();
        }
    }

    private static void arg(boolean isRight) {
        if (!isRight) {
            throw new IllegalArgumentException();
        }
    }

    private static void state(boolean isRight) {
        if (!isRight) {
            throw new IllegalStateException();
        }
    }

    private static int name(Thing t) {
        return t == null ? -1 : t.name;
    }

    private Thing[] top() {
        return w.frames.get(w.frames.size() - 1);
    }

    private boolean isReached(int object) {
        Thing t = w.things.get(object);
        return t != null && w.reached().contains(t);
    }

    private Map<Thing, List<Integer>> ways() {
        Map<Thing, List<Integer>> best = new HashMap<>();
        Map<Thing, List<Integer>> level = new HashMap<>();
        for (Thing t : w.held()) {
            level.put(t, List.of(t.name));
        }
        while (!level.isEmpty()) {
            best.putAll(level);
            Map<Thing, List<Integer>> next = new HashMap<>();
            for (Map.Entry<Thing, List<Integer>> e : level.entrySet()) {
                for (Thing f : e.getKey().fields) {
                    if (f == null || best.containsKey(f)) {
                        continue;
                    }
                    List<Integer> way = new ArrayList<>(e.getValue());
                    way.add(f.name);
                    next.merge(f, way, (a, b) -> isAhead(a, b) ? a : b);
                }
            }
            level = next;
        }
        return best;
    }

    private static boolean isAhead(List<Integer> a, List<Integer> b) {
        for (int i = 0; i < a.size(); i++) {
            int c = Integer.compare(a.get(i), b.get(i));
            if (c != 0) {
                return c < 0;
            }
        }
        return true;
    }

    private static String shapeOf(World w) {
        List<Thing> all = new ArrayList<>(w.reached());
        StringBuilder s = new StringBuilder();
        for (Thing[] frame : w.frames) {
            s.append(s.length() == 0 ? "" : " ");
            for (Thing t : frame) {
                s.append(t == null ? "-" : "" + all.indexOf(t));
            }
        }
        for (Thing t : all) {
            StringJoiner f = new StringJoiner(",", " " + t.kind + "[", "]");
            for (Thing x : t.fields) {
                f.add(x == null ? "-" : "" + all.indexOf(x));
            }
            s.append(f);
        }
        return s.toString();
    }

    private Thing bring(int kind, int fields) {
        Thing t = new Thing(told, kind, fields);
        World before = w.copy();
        long[] tally = counted.clone();
        if (w.keeper == 4 && w.behindLast(0, w.size / 4, t.cells()) < 0) {
            smallOne();
        }
        if (w.place(t.cells()) < 0) {
            whole(false);
        }
        if (w.place(t.cells()) < 0) {
            whole(true);
        }
        t.address = w.place(t.cells());
        if (t.address < 0) {
            w = before;
            counted = tally;
            throw new IllegalStateException();
        }
        told++;
        t.colour = 2;
        w.things.put(t.name, t);
        return t;
    }

    private void spend(int cost) {
        counted[6] += cost;
        counted[7] = Math.max(counted[7], cost);
    }

    private void clear(Thing r) {
        r.referent = null;
        w.queue.add(r);
        counted[8]++;
    }

    private static int fieldsOf(Collection<Thing> all) {
        return all.stream().mapToInt(t -> t.fields.length).sum();
    }

    /** (b) to (f); returns what is kept. */
    private Set<Thing> carryOut(Set<Thing> seen, boolean isHard, boolean isSeenKept) {
        for (Thing r : w.things.values()) {
            boolean isWeakOrSoft = r.kind == 1 || r.kind == 2;
            if (isWeakOrSoft && r.referent != null && seen.contains(r) && !seen.contains(r.referent)) {
                clear(r);
            }
        }
        for (Thing t : w.things.values()) {
            if (t.hasWish && !seen.contains(t) && !w.pending.contains(t)) {
                w.pending.add(t);
            }
        }
        List<Thing> from = w.roots();
        if (isSeenKept) {
            from.addAll(seen);
        }
        Set<Thing> kept = World.closure(from, isHard);
        for (Thing r : w.things.values()) {
            if (r.referent != null && kept.contains(r) && !kept.contains(r.referent)) {
                clear(r);
            }
        }
        counted[0] += w.things.size() - kept.size();
        w.things.values().retainAll(kept);
        return kept;
    }

    private int whole(boolean isHard) {
        int n = w.things.size();
        int f = fieldsOf(w.things.values());
        Map<Thing, Integer> lay = addresses();
        Set<Thing> kept = carryOut(World.closure(w.roots(), isHard), isHard, false);
        int m = kept.size();
        int g = fieldsOf(kept);
        int c = kept.stream().mapToInt(Thing::cells).sum();
        int mark = m + g + n;
        costs = new int[] {mark, mark, c + g, m + g + n + c, mark, mark, 2 * (n + f) + n - m};
        if (w.keeper == 2) {
            w.half = 1 - w.half;
            int at = w.half * (w.size / 2);
            for (Thing t : World.closure(w.roots(), isHard)) {
                t.address = at;
                at += t.cells();
            }
        }
        if (w.keeper == 3 || w.keeper == 4) {
            int at = 0;
            for (Thing t : w.byAddress()) {
                if (w.keeper == 3 || w.young(t)) {
                    t.address = at;
                    at += t.cells();
                }
            }
        }
        w.breakOff();
        counted[1]++;
        countMoved(lay);
        spend(costs[w.keeper]);
        return n - m;
    }

    private Map<Thing, Integer> addresses() {
        Map<Thing, Integer> lay = new HashMap<>();
        w.things.values().forEach(t -> lay.put(t, t.address));
        return lay;
    }

    private void countMoved(Map<Thing, Integer> lay) {
        w.things.values().forEach(t -> counted[9] += lay.get(t) != t.address ? 1 : 0);
    }

    private int smallOne() {
        Map<Thing, Integer> lay = addresses();
        int n = w.things.size();
        Set<Thing> kept = new HashSet<>(w.roots());
        for (Thing t : w.things.values()) {
            if (!w.young(t)) {
                kept.addAll(World.leads(t, true));
            }
            if (t.hasWish || t.kind != 0) {
                kept.add(t);
            }
            if (t.referent != null) {
                kept.add(t.referent);
            }
        }
        kept.removeIf(t -> !w.young(t));
        for (int before = -1; before != kept.size();) {
            before = kept.size();
            for (Thing t : List.copyOf(kept)) {
                World.leads(t, true).stream().filter(w::young).forEach(kept::add);
            }
        }
        int remembered = (int) w.things.values().stream().filter(w::rememberedIs).count();
        int cost = kept.size() + fieldsOf(kept) + remembered;
        w.things.values().removeIf(t -> w.young(t) && !kept.contains(t));
        counted[0] += n - w.things.size();
        List<Thing> stay = new ArrayList<>();
        for (Thing t : w.byAddress()) {
            if (!w.young(t)) {
                continue;
            }
            t.age++;
            int to = t.age >= 2 ? w.firstIn(w.cells(), w.size / 4, t.cells()) : -1;
            if (to >= 0) {
                t.address = to;
            } else {
                stay.add(t);
            }
        }
        int at = 0;
        for (Thing t : stay) {
            t.address = at;
            at += t.cells();
        }
        counted[2]++;
        countMoved(lay);
        spend(cost);
        return n - w.things.size();
    }

    private void endCycle() {
        Set<Thing> black = new LinkedHashSet<>();
        for (Thing t : w.things.values()) {
            if (t.colour == 2) {
                black.add(t);
            }
        }
        for (Thing t : w.reached()) {
            counted[w.guarded ? 4 : 5] += black.contains(t) ? 0 : 1;
        }
        black.addAll(w.roots());
        carryOut(World.closure(black, false), false, true);
        w.breakOff();
        counted[3]++;
    }

    private void settle() {
        if (w.keeper != 6) {
            return;
        }
        boolean isOneGone = true;
        while (isOneGone) {
            isOneGone = false;
            for (Thing t : w.things.values()) {
                if (w.count(t) == 0 && !t.hasWish && !w.isReferent(t)) {
                    w.things.remove(t.name);
                    counted[0]++;
                    isOneGone = true;
                    break;
                }
            }
        }
    }
}
