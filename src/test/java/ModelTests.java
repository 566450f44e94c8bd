import java.util.ArrayDeque;
import java.util.ArrayList;
import java.util.Arrays;
import java.util.IdentityHashMap;
import java.util.List;
import java.util.NoSuchElementException;
import java.util.Random;

/**
 * Plays runs of calls on the class and on a plain model of the document, and compares all that can be seen.
 * A run has some 512 calls; the calls that only look behind each of them are not counted here.
 */
public final class ModelTests {
    private static final int RUNS = 6000;
    private static final int CALLS = 512;
    private static final String[] NAMES = {"number", "nil", "move", "make", "text", "map", "join", "part", "compare",
        "byteAt", "setByte", "shift", "load", "store", "copy", "put", "get", "remove", "next", "entry", "collect",
        "eager", "tell", "value", "same", "total"};
    // How often each call is drawn, in the order of NAMES.
    private static final int[] WEIGHTS = {6, 2, 3, 4, 4, 2, 4, 3, 2, 2, 6, 4, 8, 14, 4, 16, 5, 5, 2, 4, 1, 1, 1, 1, 2, 1};

    /** A call's answer: a value, or the exception's class. */
    private record Answer(long value, Class<?> thrown) {
        @Override
        public String toString() {
            return thrown == null ? Long.toString(value) : "throws." + thrown.getSimpleName();
        }
    }

    private interface Call {
        long run();
    }

    private static Answer answer(Call call) {
        try {
            return new Answer(call.run(), null);
        } catch (RuntimeException e) {
            return new Answer(0, e.getClass());
        }
    }

    private enum Sort { ROW, TEXT, MAP, TABLE }

    /** An object or a table. */
    private static final class Thing {
        Sort sort;
        int serial;
        int takes;
        Word[] words;
        int[] bytes;
        boolean inKey;
        int k;
        int v;
        int texts;
        int orders;
        int filled;
        int capacity;
        Thing table;
        List<Entry> entries = new ArrayList<>();
    }

    /** A number (object null, nil false), NIL or a reference; never changed. */
    private record Word(boolean nil, Thing object, long number) {
        static final Word NIL = new Word(true, null, 0);

        boolean isText() {
            return object != null && object.sort == Sort.TEXT;
        }

        boolean isRow() {
            return object != null && object.sort == Sort.ROW;
        }

        boolean isMap() {
            return object != null && object.sort == Sort.MAP;
        }

        boolean isNumber() {
            return object == null && !nil;
        }

        int place() {
            return (int) number;
        }

        boolean sameAs(Word o) {
            return nil == o.nil && object == o.object && number == o.number;
        }
    }

    private record Entry(int order, Word[] key, Word[] value) { }

    /** The document in its plainest form. */
    private static final class Model {
        final Word[] reg = new Word[16];
        final int limit;
        List<Thing> things = new ArrayList<>();
        int used;
        int made;
        int collections;
        int given;
        boolean eager;

        Model(int limit) {
            this.limit = limit < 64 ? 64 : limit > 131072 ? 131072 : limit;
            Arrays.fill(reg, Word.NIL);
        }

        static void illegal(boolean wrong) {
            if (wrong) {
                throw new IllegalArgumentException();
            }
        }

        static void unsupported(boolean wrong) {
            if (wrong) {
                throw new UnsupportedOperationException();
            }
        }

        static void outside(boolean wrong) {
            if (wrong) {
                throw new IndexOutOfBoundsException();
            }
        }

        static void registers(int... rs) {
            for (int r : rs) {
                illegal(r < 0 || r > 15);
            }
        }

        void room(int n) {
            if (eager || used + n > limit) {
                collect();
            }
            if (used + n > limit) {
                throw new IllegalStateException();
            }
        }

        Thing thing(Sort sort, int takes) {
            Thing t = new Thing();
            t.sort = sort;
            t.takes = takes;
            used += takes;
            things.add(t);
            if (sort != Sort.TABLE) {
                made++;
                t.serial = made;
            }
            return t;
        }

        int collect() {
            IdentityHashMap<Thing, Boolean> reached = new IdentityHashMap<>();
            ArrayDeque<Thing> todo = new ArrayDeque<>();
            reach(reg, reached, todo);
            while (!todo.isEmpty()) {
                Thing t = todo.pop();
                if (t.sort == Sort.ROW) {
                    reach(t.words, reached, todo);
                } else if (t.sort == Sort.MAP) {
                    reached.put(t.table, true);
                    for (Entry e : t.entries) {
                        reach(e.key, reached, todo);
                        reach(e.value, reached, todo);
                    }
                }
            }
            List<Thing> kept = new ArrayList<>();
            int before = used;
            used = 0;
            for (Thing t : things) {
                if (reached.containsKey(t)) {
                    kept.add(t);
                    used += t.takes;
                }
            }
            things = kept;
            collections++;
            given += before - used;
            return before - used;
        }

        static void reach(Word[] words, IdentityHashMap<Thing, Boolean> reached, ArrayDeque<Thing> todo) {
            for (Word w : words) {
                if (w.object != null && reached.put(w.object, true) == null) {
                    todo.push(w.object);
                }
            }
        }

        int hold(int r, Thing t) {
            reg[r] = new Word(false, t, 0);
            return t.serial;
        }

        Thing newText(int[] bytes) {
            int takes = 1 + bytes.length / 8 + (bytes.length % 8 == 0 ? 0 : 1);
            room(takes);
            Thing t = thing(Sort.TEXT, takes);
            t.bytes = bytes;
            return t;
        }

        int[] bytes(int s) {
            unsupported(!reg[s].nil && !reg[s].isText());
            return bytes(reg[s]);
        }

        static int[] bytes(Word w) {
            return w.nil ? new int[0] : w.object.bytes;
        }

        long make(int r, int n) {
            registers(r);
            illegal(n < 0 || n > 4096);
            room(n + 1);
            Thing t = thing(Sort.ROW, n + 1);
            t.words = new Word[n];
            Arrays.fill(t.words, new Word(false, null, 0));
            return hold(r, t);
        }

        long text(int r, int n) {
            registers(r);
            illegal(n < 0 || n > 32768);
            return hold(r, newText(new int[n]));
        }

        long map(int r, int k, int v, int texts) {
            registers(r);
            illegal(k < 1 || k > 4 || v < 0 || v > 4 || texts < 0 || texts >= Math.pow(2, k));
            int table = 8 * (3 + k + v) + 1;
            room(6 + table);
            Thing t = thing(Sort.MAP, 6);
            t.k = k;
            t.v = v;
            t.texts = texts;
            t.capacity = 8;
            t.table = thing(Sort.TABLE, table);
            return hold(r, t);
        }

        long join(int r, int s, int t) {
            registers(r, s, t);
            int[] a = bytes(s);
            int[] b = bytes(t);
            unsupported(a.length + b.length > 32768);
            int[] all = Arrays.copyOf(a, a.length + b.length);
            System.arraycopy(b, 0, all, a.length, b.length);
            return hold(r, newText(all));
        }

        long part(int r, int s, int i, int j) {
            registers(r, s);
            int[] a = bytes(s);
            outside(i < 0 || i > j || j > a.length);
            return hold(r, newText(Arrays.copyOfRange(a, i, j)));
        }

        long compare(int s, int t) {
            registers(s, t);
            return Integer.signum(Arrays.compare(bytes(s), bytes(t)));
        }

        long byteAt(int s, int i) {
            registers(s);
            int[] a = bytes(s);
            outside(i < 0 || i >= a.length);
            return a[i];
        }

        void setByte(int s, int i, int v) {
            registers(s);
            int[] a = bytes(s);
            unsupported(!reg[s].nil && reg[s].object.inKey);
            outside(i < 0 || i >= a.length);
            a[i] = v & 255;
        }

        void shift(int r, int s, int k) {
            registers(r, s);
            unsupported(!reg[s].isRow());
            long place = reg[s].number + k;
            outside(place < 0 || place > reg[s].object.words.length);
            reg[r] = new Word(false, reg[s].object, place);
        }

        int word(int s, int k) {
            unsupported(!reg[s].isRow());
            long place = reg[s].number + k;
            outside(place < 0 || place >= reg[s].object.words.length);
            return (int) place;
        }

        void load(int r, int s, int k) {
            registers(r, s);
            int i = word(s, k);
            reg[r] = reg[s].object.words[i];
        }

        void store(int s, int k, int r) {
            registers(r, s);
            int i = word(s, k);
            reg[s].object.words[i] = reg[r];
        }

        void copy(int r, int s, int n) {
            registers(r, s);
            illegal(n < 0 || n > 4096);
            unsupported(!reg[r].isRow() || !reg[s].isRow());
            outside(reg[r].place() + n > reg[r].object.words.length);
            outside(reg[s].place() + n > reg[s].object.words.length);
            Word[] all = Arrays.copyOfRange(reg[s].object.words, reg[s].place(), reg[s].place() + n);
            System.arraycopy(all, 0, reg[r].object.words, reg[r].place(), n);
        }

        void mapAndRow(int m, int s) {
            registers(m, s);
            unsupported(!reg[m].isMap() || !reg[s].isRow());
            Thing t = reg[m].object;
            outside(reg[s].place() + t.k + t.v > reg[s].object.words.length);
        }

        Word[] key(int m, int s) {
            mapAndRow(m, s);
            Thing t = reg[m].object;
            Word[] key = Arrays.copyOfRange(reg[s].object.words, reg[s].place(), reg[s].place() + t.k);
            for (int i = 0; i < t.k; i++) {
                unsupported(textual(t, i) && !key[i].nil && !key[i].isText());
            }
            return key;
        }

        static boolean textual(Thing map, int i) {
            return (map.texts & (1 << i)) != 0;
        }

        static int find(Thing map, Word[] key) {
            for (int e = 0; e < map.entries.size(); e++) {
                boolean alike = true;
                Word[] there = map.entries.get(e).key;
                for (int i = 0; i < key.length; i++) {
                    alike &= textual(map, i) ? Arrays.equals(bytes(there[i]), bytes(key[i])) : there[i].sameAs(key[i]);
                }
                if (alike) {
                    return e;
                }
            }
            return -1;
        }

        long put(int m, int s) {
            Word[] key = key(m, s);
            Thing map = reg[m].object;
            int from = reg[s].place() + map.k;
            Word[] value = Arrays.copyOfRange(reg[s].object.words, from, from + map.v);
            int e = find(map, key);
            if (e >= 0) {
                Entry old = map.entries.get(e);
                map.entries.set(e, new Entry(old.order, old.key, value));
                return old.order;
            }
            if (map.filled == map.capacity) {
                int c = 4 * map.entries.size() >= 3 * map.capacity ? 2 * map.capacity : map.capacity;
                int takes = c * (3 + map.k + map.v) + 1;
                room(takes);
                map.table = thing(Sort.TABLE, takes);
                map.capacity = c;
                map.filled = map.entries.size();
            }
            for (int i = 0; i < map.k; i++) {
                if (textual(map, i) && key[i].object != null) {
                    key[i].object.inKey = true;
                }
            }
            map.filled++;
            map.orders++;
            map.entries.add(new Entry(map.orders - 1, key, value));
            return map.orders - 1;
        }

        long get(int m, int s) {
            int e = find(reg15(m), key(m, s));
            if (e < 0) {
                return -1;
            }
            Thing map = reg[m].object;
            Entry found = map.entries.get(e);
            System.arraycopy(found.value, 0, reg[s].object.words, reg[s].place() + map.k, map.v);
            return found.order;
        }

        long remove(int m, int s) {
            int e = find(reg15(m), key(m, s));
            return e < 0 ? -1 : reg[m].object.entries.remove(e).order;
        }

        Thing reg15(int m) {
            registers(m);
            return reg[m].object;
        }

        long next(int m, int from) {
            registers(m);
            unsupported(!reg[m].isMap());
            long least = -1;
            for (Entry e : reg[m].object.entries) {
                if (e.order >= from && (least < 0 || e.order < least)) {
                    least = e.order;
                }
            }
            return least;
        }

        void entry(int m, int order, int s) {
            mapAndRow(m, s);
            Thing map = reg[m].object;
            for (Entry e : map.entries) {
                if (e.order == order) {
                    System.arraycopy(e.key, 0, reg[s].object.words, reg[s].place(), map.k);
                    System.arraycopy(e.value, 0, reg[s].object.words, reg[s].place() + map.k, map.v);
                    return;
                }
            }
            throw new NoSuchElementException();
        }

        long tell(int r, int what) {
            registers(r);
            illegal(what < 0 || what > 4);
            Word w = reg[r];
            if (w.object == null) {
                return what == 0 && w.nil ? 1 : 0;
            }
            switch (what) {
                case 0:
                    return w.isRow() ? 2 : w.isText() ? 3 : 4;
                case 1:
                    return w.object.serial;
                case 2:
                    return w.number;
                case 3:
                    return w.isRow() ? w.object.words.length : w.isText() ? w.object.bytes.length : w.object.entries.size();
                default:
                    return w.isMap() ? w.object.capacity : 0;
            }
        }

        long value(int r) {
            registers(r);
            unsupported(!reg[r].isNumber());
            return reg[r].number;
        }

        long same(int r, int s) {
            registers(r, s);
            return reg[r].sameAs(reg[s]) ? 1 : 0;
        }

        long total(int what) {
            illegal(what < 0 || what > 4);
            return new int[] {used, limit, made, collections, given}[what];
        }
    }

    private final Random random;
    private final Model model;
    private final WordHeap heap;
    private final int sizes;
    // In such a run the registers 12 to 14 keep a row and two maps, so that the maps live long.
    private final boolean mapsKept;
    private final List<String> told = new ArrayList<>();
    private boolean wrong;

    private ModelTests(long seed) {
        random = new Random(seed);
        int[] limits = {64, 65, 100, 150, 200, 300, 500, 900, 2000, 9000, 131072, -5, 1 << 30};
        int limit = limits[random.nextInt(limits.length)];
        sizes = new int[] {3, 6, 12, 40, 300}[random.nextInt(5)];
        model = new Model(limit);
        heap = new WordHeap(limit);
        mapsKept = random.nextInt(3) > 0;
        told.add("new WordHeap(" + limit + ")");
    }

    private static Answer plain(Runnable call) {
        return answer(() -> {
            call.run();
            return 0;
        });
    }

    /** Mostly a register whose word is of the kind that tell answers, so that calls seldom fail. */
    private int register(int kind) {
        if (random.nextInt(150) == 0) {
            return new int[] {-1, 16, Integer.MIN_VALUE, Integer.MAX_VALUE}[random.nextInt(4)];
        }
        if (mapsKept && kind == 4 && random.nextInt(12) != 0) {
            return 13 + random.nextInt(2);
        }
        if (mapsKept && kind == 2 && random.nextInt(2) == 0) {
            return 12;
        }
        int r = mapsKept && kind < 0 && random.nextInt(300) != 0 ? random.nextInt(12) : random.nextInt(16);
        if (kind >= 0 && random.nextInt(12) != 0) {
            for (int i = 0; i < 16; i++) {
                int at = (r + i) % 16;
                if (model.tell(at, 0) == kind) {
                    return at;
                }
            }
        }
        return r;
    }

    private int small(int from, int to) {
        if (random.nextInt(200) == 0) {
            return new int[] {Integer.MIN_VALUE, Integer.MAX_VALUE, -1, 4096, 4097, 32768, 32769}[random.nextInt(7)];
        }
        return from + random.nextInt(to - from + 1);
    }

    /** A place of the row in s, from its beginning, seldom outside. */
    private int inRow(int s) {
        if (s < 0 || s > 15 || model.reg[s].object == null || model.reg[s].object.words == null) {
            return small(-1, 2);
        }
        int place = model.reg[s].place();
        return small(-1, Math.min(5, model.reg[s].object.words.length)) - (random.nextInt(3) == 0 ? place : 0);
    }

    private int bytesOf(int s) {
        return s < 0 || s > 15 || model.reg[s].object == null || model.reg[s].object.bytes == null ? 0
                : model.reg[s].object.bytes.length;
    }

    private void check(String call, Answer got, Answer due) {
        told.add(call + " " + due);
        if (!got.equals(due)) {
            wrong = true;
            told.add("^ answered " + got);
        }
    }

    private int draw() {
        int sum = 0;
        for (int w : WEIGHTS) {
            sum += w;
        }
        int at = random.nextInt(sum);
        for (int i = 0; i < WEIGHTS.length; i++) {
            at -= WEIGHTS[i];
            if (at < 0) {
                return i;
            }
        }
        return 0;
    }

    private void keepMaps() {
        check("make 12 9", answer(() -> heap.make(12, 9)), answer(() -> model.make(12, 9)));
        for (int r = 13; r < 15; r++) {
            int at = r;
            int k = 1 + random.nextInt(random.nextInt(4) + 1);
            int v = random.nextInt(random.nextInt(5) + 1);
            int t = random.nextInt(1 << k);
            check("map " + at + " " + k + " " + v + " " + t, answer(() -> heap.map(at, k, v, t)),
                    answer(() -> model.map(at, k, v, t)));
        }
    }

    /** Stores words that can be a key, most of them new ones, before the row in register 12. */
    private void writeKey() {
        Thing map = model.reg[13 + random.nextInt(2)].object;
        int k = map == null || map.sort != Sort.MAP ? 2 : map.k;
        for (int i = 0; i < k; i++) {
            if (i > 0 && random.nextInt(2) == 0) {
                continue;
            }
            int at = i;
            boolean textual = map != null && Model.textual(map, i);
            int r = register(textual ? random.nextInt(9) == 0 ? 1 : 3 : -1);
            if (!textual && random.nextInt(3) > 0) {
                long v = random.nextInt(30);
                check("number 11 " + v, plain(() -> heap.number(11, v)), plain(() -> model.reg[11] = new Word(false, null, v)));
                r = 11;
            } else if (textual && random.nextInt(3) > 0) {
                r = freshText();
            }
            int from = r;
            check("store 12 " + at + " " + from, plain(() -> heap.store(12, at, from)), plain(() -> model.store(12, at, from)));
        }
    }

    private int freshText() {
        int n = random.nextInt(3) == 0 ? random.nextInt(12) : 1;
        check("text 11 " + n, answer(() -> heap.text(11, n)), answer(() -> model.text(11, n)));
        int v = random.nextInt(25);
        check("setByte 11 0 " + v, plain(() -> heap.setByte(11, 0, v)), plain(() -> model.setByte(11, 0, v)));
        return 11;
    }

    private void step() {
        if (mapsKept && random.nextInt(4) == 0) {
            writeKey();
            int m = 13 + random.nextInt(2);
            check("put " + m + " 12", answer(() -> heap.put(m, 12)), answer(() -> model.put(m, 12)));
            return;
        }
        int which = draw();
        String name = NAMES[which];
        int r = register(-1);
        int kindOfS = switch (name) {
            case "join", "part", "compare", "byteAt", "setByte" -> 3;
            case "shift", "load", "store", "copy" -> 2;
            case "put", "get", "remove", "entry" -> 2;
            case "value" -> 0;
            default -> -1;
        };
        int s = register(kindOfS);
        switch (name) {
            case "number" -> {
                long v = random.nextInt(4) == 0 ? random.nextLong() : random.nextInt(5) * 8192L;
                check("number " + r + " " + v, plain(() -> heap.number(r, v)), plain(() -> {
                    Model.registers(r);
                    model.reg[r] = new Word(false, null, v);
                }));
            }
            case "nil" -> check("nil " + r, plain(() -> heap.nil(r)), plain(() -> {
                Model.registers(r);
                model.reg[r] = Word.NIL;
            }));
            case "move" -> check("move " + r + " " + s, plain(() -> heap.move(r, s)), plain(() -> {
                Model.registers(r, s);
                model.reg[r] = model.reg[s];
            }));
            case "make" -> {
                int n = small(0, sizes);
                check("make " + r + " " + n, answer(() -> heap.make(r, n)), answer(() -> model.make(r, n)));
            }
            case "text" -> {
                int n = small(0, random.nextBoolean() ? 3 : sizes);
                check("text " + r + " " + n, answer(() -> heap.text(r, n)), answer(() -> model.text(r, n)));
            }
            case "map" -> {
                int k = random.nextInt(3) == 0 ? small(0, 5) : 1;
                int v = random.nextInt(2) == 0 ? small(-1, 5) : 1;
                int t = k < 0 || k > 5 ? 0 : random.nextInt(20) == 0 ? small(-1, 1 << k) : random.nextInt(1 << k);
                check("map " + r + " " + k + " " + v + " " + t, answer(() -> heap.map(r, k, v, t)),
                        answer(() -> model.map(r, k, v, t)));
            }
            case "join" -> {
                int t = register(3);
                check("join " + r + " " + s + " " + t, answer(() -> heap.join(r, s, t)), answer(() -> model.join(r, s, t)));
            }
            case "part" -> {
                int bytes = bytesOf(s);
                int i = small(0, bytes);
                int j = i < 0 || i > bytes || random.nextInt(9) == 0 ? small(-1, bytes + 1) : small(i, bytes);
                check("part " + r + " " + s + " " + i + " " + j, answer(() -> heap.part(r, s, i, j)),
                        answer(() -> model.part(r, s, i, j)));
            }
            case "compare" -> {
                int t = register(3);
                check("compare " + s + " " + t, answer(() -> heap.compare(s, t)), answer(() -> model.compare(s, t)));
            }
            case "byteAt" -> {
                int i = random.nextInt(9) == 0 ? small(-1, bytesOf(s)) : small(0, Math.max(0, bytesOf(s) - 1));
                check("byteAt " + s + " " + i, answer(() -> heap.byteAt(s, i)), answer(() -> model.byteAt(s, i)));
            }
            case "setByte" -> {
                int i = random.nextInt(9) == 0 ? small(-1, bytesOf(s)) : small(0, Math.max(0, bytesOf(s) - 1));
                int v = random.nextInt(3) == 0 ? random.nextInt() : random.nextInt(2) * 200;
                check("setByte " + s + " " + i + " " + v, plain(() -> heap.setByte(s, i, v)), plain(() -> model.setByte(s, i, v)));
            }
            case "shift" -> {
                int k = inRow(s);
                check("shift " + r + " " + s + " " + k, plain(() -> heap.shift(r, s, k)), plain(() -> model.shift(r, s, k)));
            }
            case "load" -> {
                int k = inRow(s);
                check("load " + r + " " + s + " " + k, plain(() -> heap.load(r, s, k)), plain(() -> model.load(r, s, k)));
            }
            case "store" -> {
                int k = inRow(s);
                check("store " + s + " " + k + " " + r, plain(() -> heap.store(s, k, r)), plain(() -> model.store(s, k, r)));
            }
            case "copy" -> {
                int t = register(2);
                int n = small(0, 4);
                check("copy " + t + " " + s + " " + n, plain(() -> heap.copy(t, s, n)), plain(() -> model.copy(t, s, n)));
            }
            case "put" -> {
                int m = register(4);
                check("put " + m + " " + s, answer(() -> heap.put(m, s)), answer(() -> model.put(m, s)));
            }
            case "get" -> {
                int m = register(4);
                check("get " + m + " " + s, answer(() -> heap.get(m, s)), answer(() -> model.get(m, s)));
            }
            case "remove" -> {
                int m = register(4);
                check("remove " + m + " " + s, answer(() -> heap.remove(m, s)), answer(() -> model.remove(m, s)));
            }
            case "next" -> {
                int m = register(4);
                int from = random.nextInt(4) == 0 ? small(-2, 12) : random.nextInt(120);
                check("next " + m + " " + from, answer(() -> heap.next(m, from)), answer(() -> model.next(m, from)));
            }
            case "entry" -> {
                int m = register(4);
                int order = random.nextInt(2) == 0 ? small(-1, 6) : random.nextInt(80);
                check("entry " + m + " " + order + " " + s, plain(() -> heap.entry(m, order, s)),
                        plain(() -> model.entry(m, order, s)));
            }
            case "collect" -> check("collect", answer(() -> heap.collect()), answer(() -> model.collect()));
            case "eager" -> {
                boolean on = random.nextInt(3) == 0;
                check("eager " + on, plain(() -> heap.eager(on)), plain(() -> model.eager = on));
            }
            case "tell" -> {
                int what = small(-1, 5);
                check("tell " + r + " " + what, answer(() -> heap.tell(r, what)), answer(() -> model.tell(r, what)));
            }
            case "value" -> check("value " + s, answer(() -> heap.value(s)), answer(() -> model.value(s)));
            case "same" -> check("same " + r + " " + s, answer(() -> heap.same(r, s) ? 1 : 0), answer(() -> model.same(r, s)));
            default -> {
                int what = small(-1, 5);
                check("total " + what, answer(() -> heap.total(what)), answer(() -> model.total(what)));
            }
        }
    }

    /** What can be seen without a change must be alike behind every call. */
    private void compareAll() {
        for (int what = 0; what < 5; what++) {
            int w = what;
            if (heap.total(w) != model.total(w)) {
                check("then total " + w, answer(() -> heap.total(w)), answer(() -> model.total(w)));
            }
            for (int r = 0; r < 16; r++) {
                int at = r;
                if (heap.tell(r, w) != model.tell(r, w)) {
                    check("then tell " + at + " " + w, answer(() -> heap.tell(at, w)), answer(() -> model.tell(at, w)));
                }
            }
        }
        for (int r = 0; r < 16; r++) {
            int at = r;
            if (model.reg[r].isNumber() && heap.value(r) != model.value(r)) {
                check("then value " + at, answer(() -> heap.value(at)), answer(() -> model.value(at)));
            }
            for (int i = 0; model.reg[r].isText() && i < model.reg[r].object.bytes.length; i++) {
                int b = i;
                if (heap.byteAt(r, i) != model.byteAt(r, i)) {
                    check("then byteAt " + at + " " + b, answer(() -> heap.byteAt(at, b)), answer(() -> model.byteAt(at, b)));
                }
            }
            int s = random.nextInt(16);
            if (heap.same(r, s) != (model.same(r, s) == 1)) {
                check("then same " + at + " " + s, answer(() -> heap.same(at, s) ? 1 : 0), answer(() -> model.same(at, s)));
            }
        }
    }

    /** The words of every row that a register refers to, read through register 15. */
    private void compareRows() {
        for (int r = 0; r < 15 && !wrong; r++) {
            if (!model.reg[r].isRow()) {
                continue;
            }
            int at = r;
            int length = model.reg[r].object.words.length;
            for (int i = 0; i < length && !wrong; i++) {
                int k = i - model.reg[r].place();
                check("load 15 " + at + " " + k, plain(() -> heap.load(15, at, k)), plain(() -> model.load(15, at, k)));
                compareAll();
            }
        }
    }

    private boolean play() {
        if (mapsKept) {
            keepMaps();
        }
        while (told.size() <= CALLS && !wrong) {
            step();
            compareAll();
        }
        if (!wrong && sizes < 100) {
            compareRows();
        }
        return !wrong;
    }

    public static void main(String[] args) {
        int failed = 0;
        int collections = 0;
        for (int seed = 1; seed <= RUNS && failed < 3; seed++) {
            ModelTests test = new ModelTests(seed);
            if (!test.play()) {
                failed++;
                System.out.println("seed " + seed + ":");
                for (String line : test.told) {
                    System.out.println("  " + line);
                }
            }
            collections += test.model.collections;
        }
        if (failed > 0) {
            System.exit(1);
        }
        System.out.println(RUNS + " runs are alike, with " + collections + " collections");
    }
}
