import java.util.Arrays;
import java.util.NoSuchElementException;

/** The memory of a machine: the document's promises tell what every call answers and throws. */
public final class WordHeap {
    public static final int NONE = -1;

    private static final int REGISTERS = 16;
    private static final int LEAST_LIMIT = 64;
    private static final int MOST_LIMIT = 131072;
    private static final int MOST_WORDS = 4096;
    private static final int MOST_BYTES = 32768;
    private static final int MOST_KEY_WORDS = 4;
    private static final int MOST_VALUE_WORDS = 4;

    // The kinds of words as tell answers them; no word outside a MAP ever refers to a TABLE.
    private static final int NUMBER = 0;
    private static final int NIL = 1;
    private static final int ROW = 2;
    private static final int TEXT = 3;
    private static final int MAP = 4;
    private static final int TABLE = 5;

    // The handle that NIL has instead of an object's.
    private static final int NOBODY = 0;

    private final Heap heap;
    private final Texts texts;
    private final Maps maps;

    public WordHeap(int limit) {
        heap = new Heap(Math.max(LEAST_LIMIT, Math.min(MOST_LIMIT, limit)));
        texts = new Texts(heap);
        maps = new Maps(heap, texts);
    }

    public void number(int r, long v) throws IllegalArgumentException {
        needRegister(r);
        heap.setNumber(r, v);
    }

    public void nil(int r) throws IllegalArgumentException {
        needRegister(r);
        heap.setReference(r, NOBODY, 0);
    }

    public void move(int r, int s) throws IllegalArgumentException {
        needRegister(r);
        needRegister(s);
        heap.setWord(r, s);
    }

    public int make(int r, int n) throws IllegalArgumentException, IllegalStateException {
        needRegister(r);
        needWithin(n, 0, MOST_WORDS);
        return hold(r, heap.claim(ROW, n));
    }

    public int text(int r, int n) throws IllegalArgumentException, IllegalStateException {
        needRegister(r);
        needWithin(n, 0, MOST_BYTES);
        return hold(r, heap.claim(TEXT, n));
    }

    public int map(int r, int k, int v, int texts) throws IllegalArgumentException, IllegalStateException {
        needRegister(r);
        needWithin(k, 1, MOST_KEY_WORDS);
        needWithin(v, 0, MOST_VALUE_WORDS);
        needWithin(texts, 0, (1 << k) - 1);
        return hold(r, maps.newMap(k, v, texts));
    }

    public int join(int r, int s, int t)
            throws IllegalArgumentException, UnsupportedOperationException, IllegalStateException {
        needRegister(r);
        needRegister(s);
        needRegister(t);
        int first = textIn(s);
        int second = textIn(t);
        if (heap.length(first) + heap.length(second) > MOST_BYTES) {
            throw new UnsupportedOperationException("the joined text is too long");
        }
        return hold(r, texts.joined(first, second));
    }

    public int part(int r, int s, int i, int j) throws IllegalArgumentException, UnsupportedOperationException,
            IndexOutOfBoundsException, IllegalStateException {
        needRegister(r);
        needRegister(s);
        int text = textIn(s);
        if (i < 0 || j < i || j > heap.length(text)) {
            throw new IndexOutOfBoundsException("no such part of the text");
        }
        return hold(r, texts.partOf(text, i, j));
    }

    public int compare(int s, int t) throws IllegalArgumentException, UnsupportedOperationException {
        needRegister(s);
        needRegister(t);
        int first = textIn(s);
        int second = textIn(t);
        return texts.order(first, second);
    }

    public int byteAt(int s, int i)
            throws IllegalArgumentException, UnsupportedOperationException, IndexOutOfBoundsException {
        needRegister(s);
        int text = textIn(s);
        needByte(text, i);
        return texts.byteOf(text, i);
    }

    public void setByte(int s, int i, int v)
            throws IllegalArgumentException, UnsupportedOperationException, IndexOutOfBoundsException {
        needRegister(s);
        int text = textIn(s);
        if (heap.isFrozen(text)) {
            throw new UnsupportedOperationException("the text was in a key");
        }
        needByte(text, i);
        texts.changeByte(text, i, v);
    }

    public void shift(int r, int s, int k)
            throws IllegalArgumentException, UnsupportedOperationException, IndexOutOfBoundsException {
        needRegister(r);
        needRegister(s);
        int row = rowIn(s);
        long place = (long) heap.placeAt(s) + k;
        if (place < 0 || place > heap.length(row)) {
            throw new IndexOutOfBoundsException("no such place");
        }
        heap.setReference(r, row, (int) place);
    }

    public void load(int r, int s, int k)
            throws IllegalArgumentException, UnsupportedOperationException, IndexOutOfBoundsException {
        needRegister(r);
        needRegister(s);
        int at = wordBehind(s, k);
        heap.setWord(r, at);
    }

    public void store(int s, int k, int r)
            throws IllegalArgumentException, UnsupportedOperationException, IndexOutOfBoundsException {
        needRegister(s);
        needRegister(r);
        int at = wordBehind(s, k);
        heap.setWord(at, r);
    }

    public void copy(int r, int s, int n)
            throws IllegalArgumentException, UnsupportedOperationException, IndexOutOfBoundsException {
        needRegister(r);
        needRegister(s);
        needWithin(n, 0, MOST_WORDS);
        rowIn(r);
        rowIn(s);
        needWords(r, n);
        needWords(s, n);
        heap.copyWords(rowWord(r), rowWord(s), n);
    }

    public int put(int m, int s) throws IllegalArgumentException, UnsupportedOperationException,
            IndexOutOfBoundsException, IllegalStateException {
        needMapAndWords(m, s);
        needTextualKey(m, s);
        return maps.enter(heap.handleAt(m), heap.handleAt(s), heap.placeAt(s));
    }

    public int get(int m, int s)
            throws IllegalArgumentException, UnsupportedOperationException, IndexOutOfBoundsException {
        needMapAndWords(m, s);
        needTextualKey(m, s);
        return maps.fetch(heap.handleAt(m), rowWord(s));
    }

    public int remove(int m, int s)
            throws IllegalArgumentException, UnsupportedOperationException, IndexOutOfBoundsException {
        needMapAndWords(m, s);
        needTextualKey(m, s);
        return maps.erase(heap.handleAt(m), rowWord(s));
    }

    public int next(int m, int from) throws IllegalArgumentException, UnsupportedOperationException {
        needRegister(m);
        int slot = maps.slotFrom(mapIn(m), from);
        return slot == NONE ? NONE : maps.orderIn(slot);
    }

    public void entry(int m, int order, int s) throws IllegalArgumentException, UnsupportedOperationException,
            IndexOutOfBoundsException, NoSuchElementException {
        needMapAndWords(m, s);
        int map = heap.handleAt(m);
        int slot = maps.slotFrom(map, order);
        if (slot == NONE || maps.orderIn(slot) != order) {
            throw new NoSuchElementException("no entry with this order");
        }
        maps.readEntry(map, slot, rowWord(s));
    }

    public int collect() {
        return heap.collection();
    }

    public void eager(boolean on) {
        heap.setEager(on);
    }

    public int tell(int r, int what) throws IllegalArgumentException {
        needRegister(r);
        needWithin(what, 0, 4);
        int kind = heap.kindAt(r);
        if (what == 0) {
            return kind;
        }
        if (kind == NUMBER || kind == NIL) {
            return 0;
        }
        int handle = heap.handleAt(r);
        switch (what) {
            case 1:
                return heap.serial(handle);
            case 2:
                return heap.placeAt(r);
            case 3:
                return kind == MAP ? maps.entries(handle) : heap.length(handle);
            default:
                return kind == MAP ? maps.capacity(handle) : 0;
        }
    }

    public long value(int r) throws IllegalArgumentException, UnsupportedOperationException {
        needRegister(r);
        if (heap.isReference(r)) {
            throw new UnsupportedOperationException("no number");
        }
        return heap.bitsAt(r);
    }

    public boolean same(int r, int s) throws IllegalArgumentException {
        needRegister(r);
        needRegister(s);
        return heap.sameWords(r, s);
    }

    public int total(int what) throws IllegalArgumentException {
        needWithin(what, 0, 4);
        return heap.count(what);
    }

    private static void needRegister(int r) {
        if (r < 0 || r >= REGISTERS) {
            throw new IllegalArgumentException("no such register");
        }
    }

    private static void needWithin(int n, int least, int most) {
        if (n < least || n > most) {
            throw new IllegalArgumentException("out of range");
        }
    }

    private int textIn(int s) {
        int kind = heap.kindAt(s);
        if (kind != TEXT && kind != NIL) {
            throw new UnsupportedOperationException("neither a text nor nil");
        }
        return heap.handleAt(s);
    }

    private int rowIn(int s) {
        if (heap.kindAt(s) != ROW) {
            throw new UnsupportedOperationException("no row");
        }
        return heap.handleAt(s);
    }

    private int mapIn(int m) {
        if (heap.kindAt(m) != MAP) {
            throw new UnsupportedOperationException("no map");
        }
        return heap.handleAt(m);
    }

    private void needByte(int text, int i) {
        if (i < 0 || i >= heap.length(text)) {
            throw new IndexOutOfBoundsException("no such byte");
        }
    }

    /** Where the word stands that is k places behind the reference in s; a long, as any int is a k. */
    private int wordBehind(int s, int k) {
        int row = rowIn(s);
        long place = (long) heap.placeAt(s) + k;
        if (place < 0 || place >= heap.length(row)) {
            throw new IndexOutOfBoundsException("no such word");
        }
        return heap.first(row) + (int) place;
    }

    private void needWords(int s, int n) {
        if (heap.placeAt(s) + n > heap.length(heap.handleAt(s))) {
            throw new IndexOutOfBoundsException("not so many words");
        }
    }

    private void needMapAndWords(int m, int s) {
        needRegister(m);
        needRegister(s);
        int map = mapIn(m);
        rowIn(s);
        needWords(s, maps.entryWords(map));
    }

    private void needTextualKey(int m, int s) {
        if (!maps.hasTextualKey(heap.handleAt(m), rowWord(s))) {
            throw new UnsupportedOperationException("a textual word is neither a text nor nil");
        }
    }

    private int rowWord(int s) {
        return heap.first(heap.handleAt(s)) + heap.placeAt(s);
    }

    private int hold(int r, int handle) {
        heap.setReference(r, handle, 0);
        return heap.serial(handle);
    }

    /**
     * All words, each with a flag beside it that tells references from numbers: first the registers,
     * then a header that stands for NIL, then all objects and tables without gaps. Before an object's
     * words stands its header, the one word more that it takes. A reference names its object by a
     * handle, not by where it stands, so that a collection need not change any reference.
     */
    private static final class Heap {
        private static final int FIRST_SIZE = 64;
        private static final int OBJECTS_START = REGISTERS + 1;

        private static final int PLACE_BITS = 13;
        private static final long PLACE_MASK = (1L << PLACE_BITS) - 1;

        // A header: the handle in the lowest bits, then the kind, the frozen bit, the length, the number.
        private static final int KIND_SHIFT = 18;
        private static final int FROZEN_SHIFT = 21;
        private static final int LENGTH_SHIFT = 22;
        private static final int NUMBER_SHIFT = 40;
        private static final long KIND_MASK = 7;
        private static final long WIDE_MASK = (1L << 18) - 1;

        private final int limit;
        private long[] bits;
        private boolean[] references;
        // By handle: where the object's header stands, or for a free handle the next free one.
        private long[] starts;
        private boolean[] reached;
        private long[] queue;
        private int queued;
        private int lastHandle;
        private int freeHandle;
        private int end;
        private int made;
        private int collections;
        private int givenBack;
        private boolean always;

        Heap(int limit) {
            this.limit = limit;
            bits = new long[FIRST_SIZE];
            references = new boolean[FIRST_SIZE];
            starts = new long[FIRST_SIZE];
            reached = new boolean[FIRST_SIZE];
            queue = new long[FIRST_SIZE];
            for (int r = 0; r < REGISTERS; r++) {
                references[r] = true;
            }
            // NIL's header has no length, so that a text's bytes can be asked of NIL too.
            starts[NOBODY] = REGISTERS;
            bits[REGISTERS] = (long) NIL << KIND_SHIFT | NOBODY;
            end = OBJECTS_START;
            freeHandle = NOBODY;
        }

        long bitsAt(int i) {
            return bits[i];
        }

        boolean isReference(int i) {
            return references[i];
        }

        int handleAt(int i) {
            return references[i] ? (int) (bits[i] >>> PLACE_BITS) : NOBODY;
        }

        int placeAt(int i) {
            return references[i] ? (int) (bits[i] & PLACE_MASK) : 0;
        }

        int kindAt(int i) {
            return references[i] ? kindIn(header(handleAt(i))) : NUMBER;
        }

        boolean sameWords(int i, int j) {
            return references[i] == references[j] && bits[i] == bits[j];
        }

        void setNumber(int i, long v) {
            bits[i] = v;
            references[i] = false;
        }

        void setReference(int i, int handle, int place) {
            bits[i] = (long) handle << PLACE_BITS | place;
            references[i] = true;
        }

        void setWord(int to, int from) {
            bits[to] = bits[from];
            references[to] = references[from];
        }

        /** Goes from the side where an overlap can't overwrite a word that is still to be copied. */
        void copyWords(int to, int from, int n) {
            System.arraycopy(bits, from, bits, to, n);
            if (to <= from) {
                for (int i = 0; i < n; i++) {
                    references[to + i] = references[from + i];
                }
            } else {
                for (int i = n - 1; i >= 0; i--) {
                    references[to + i] = references[from + i];
                }
            }
        }

        void clearWords(int from, int n) {
            Arrays.fill(bits, from, from + n, 0L);
            for (int i = from; i < from + n; i++) {
                references[i] = false;
            }
        }

        /** Where the first word of an object stands, or would stand. */
        int first(int handle) {
            return (int) starts[handle] + 1;
        }

        int length(int handle) {
            return lengthIn(header(handle));
        }

        int serial(int handle) {
            return (int) (header(handle) >>> NUMBER_SHIFT);
        }

        boolean isFrozen(int handle) {
            return (header(handle) >>> FROZEN_SHIFT & 1) != 0;
        }

        void freeze(int handle) {
            bits[(int) starts[handle]] |= 1L << FROZEN_SHIFT;
        }

        void setEager(boolean on) {
            always = on;
        }

        int used() {
            return end - OBJECTS_START;
        }

        int count(int what) {
            switch (what) {
                case 0:
                    return used();
                case 1:
                    return limit;
                case 2:
                    return made;
                case 3:
                    return collections;
                default:
                    return givenBack;
            }
        }

        int claim(int kind, int length) {
            needRoom(sizeOf(kind, length));
            return place(kind, length);
        }

        void needRoom(int n) {
            if (always || used() + n > limit) {
                collection();
            }
            if (used() + n > limit) {
                throw new IllegalStateException("full");
            }
        }

        /** Only behind needRoom, so that the limit leaves words enough. */
        int place(int kind, int length) {
            int handle = newHandle();
            int start = end;
            int size = sizeOf(kind, length);
            extendWords(start + size);
            clearWords(start, size);
            long number = 0;
            // A table is no object of the document's, so it has no number.
            if (kind != TABLE) {
                made++;
                number = made;
            }
            bits[start] = number << NUMBER_SHIFT | (long) length << LENGTH_SHIFT | (long) kind << KIND_SHIFT | handle;
            starts[handle] = start;
            end = start + size;
            return handle;
        }

        int collection() {
            queued = 0;
            reachFrom(0, REGISTERS);
            // Each handle is queued once at most.
            for (int i = 0; i < queued && i < lastHandle; i++) {
                int handle = (int) queue[i];
                if (kindIn(header(handle)) != TEXT) {
                    reachFrom(first(handle), length(handle));
                }
            }
            int before = end;
            moveTogether();
            collections++;
            givenBack += before - end;
            return before - end;
        }

        private void reachFrom(int from, int n) {
            for (int i = from; i < from + n; i++) {
                if (references[i]) {
                    int handle = handleAt(i);
                    if (handle != NOBODY && !reached[handle]) {
                        reached[handle] = true;
                        queue[queued] = handle;
                        queued++;
                    }
                }
            }
        }

        private void moveTogether() {
            int kept = OBJECTS_START;
            int size = 1;
            for (int at = OBJECTS_START; at < end; at += size) {
                int handle = (int) (bits[at] & WIDE_MASK);
                size = sizeOf(kindIn(bits[at]), lengthIn(bits[at]));
                if (reached[handle]) {
                    reached[handle] = false;
                    starts[handle] = kept;
                    if (kept < at) {
                        copyWords(kept, at, size);
                    }
                    kept += size;
                } else {
                    starts[handle] = freeHandle;
                    freeHandle = handle;
                }
            }
            end = kept;
        }

        private int newHandle() {
            if (freeHandle != NOBODY) {
                int handle = freeHandle;
                freeHandle = (int) starts[handle];
                return handle;
            }
            lastHandle++;
            if (lastHandle >= starts.length) {
                extendHandles();
            }
            return lastHandle;
        }

        /** Handles in use are never more than the limit, as every object takes a word at least. */
        private void extendHandles() {
            int size = Math.min(2 * starts.length, limit + 1);
            starts = Arrays.copyOf(starts, size);
            queue = new long[size];
            // Nothing to take over: outside a collection no handle is reached.
            reached = new boolean[size];
        }

        private void extendWords(int n) {
            if (n <= bits.length) {
                return;
            }
            int most = OBJECTS_START + limit;
            int size = FIRST_SIZE;
            while (size < n && size < most) {
                size *= 2;
            }
            size = Math.min(size, most);
            bits = Arrays.copyOf(bits, size);
            boolean[] wider = new boolean[size];
            for (int i = 0; i < references.length; i++) {
                wider[i] = references[i];
            }
            references = wider;
        }

        private long header(int handle) {
            return bits[(int) starts[handle]];
        }

        private static int kindIn(long header) {
            return (int) (header >>> KIND_SHIFT & KIND_MASK);
        }

        private static int lengthIn(long header) {
            return (int) (header >>> LENGTH_SHIFT & WIDE_MASK);
        }

        static int sizeOf(int kind, int length) {
            return 1 + (kind == TEXT ? (length + 7) >> 3 : length);
        }
    }

    /** Texts by their handles, NOBODY for NIL. Byte 0 is the highest of a word, so words compare as their bytes do. */
    private static final class Texts {
        private static final long SIGN = 1L << 63;

        private final Heap heap;

        Texts(Heap heap) {
            this.heap = heap;
        }

        private static int wordsFor(int bytes) {
            return Heap.sizeOf(TEXT, bytes) - 1;
        }

        int byteOf(int text, int i) {
            return (int) (heap.bitsAt(heap.first(text) + (i >> 3)) >>> shiftOf(i)) & 255;
        }

        void changeByte(int text, int i, int v) {
            int at = heap.first(text) + (i >> 3);
            long others = heap.bitsAt(at) & ~(255L << shiftOf(i));
            heap.setNumber(at, others | (v & 255L) << shiftOf(i));
        }

        /** Bytes behind a text's end are 0 in its last word, so that lengths count only where all words are equal. */
        int order(int s, int t) {
            int both = wordsFor(Math.min(heap.length(s), heap.length(t)));
            for (int w = 0; w < both; w++) {
                // Turning the highest bit makes the signed comparison one of bytes 0 .. 255.
                int order = Long.compare(wordOf(s, w) ^ SIGN, wordOf(t, w) ^ SIGN);
                if (order != 0) {
                    return order < 0 ? -1 : 1;
                }
            }
            return Integer.compare(heap.length(s), heap.length(t));
        }

        boolean alike(int s, int t) {
            int bytes = heap.length(s);
            if (bytes != heap.length(t)) {
                return false;
            }
            int words = wordsFor(bytes);
            for (int w = 0; w < words; w++) {
                if (heap.bitsAt(heap.first(s) + w) != heap.bitsAt(heap.first(t) + w)) {
                    return false;
                }
            }
            return true;
        }

        int joined(int s, int t) {
            int split = heap.length(s);
            int bytes = split + heap.length(t);
            int text = heap.claim(TEXT, bytes);
            for (int w = 0; w < wordsFor(bytes); w++) {
                heap.setNumber(heap.first(text) + w, wordOf(s, w) | eightFrom(t, 8 * w - split));
            }
            return text;
        }

        int partOf(int s, int i, int j) {
            int bytes = j - i;
            int text = heap.claim(TEXT, bytes);
            for (int w = 0; w < wordsFor(bytes); w++) {
                int surplus = Math.max(0, 8 * (w + 1) - bytes);
                heap.setNumber(heap.first(text) + w, eightFrom(s, i + 8 * w) & -1L << 8 * surplus);
            }
            return text;
        }

        /** The eight bytes from i on, which may be below 0; 0 where the text has none. */
        private long eightFrom(int text, int i) {
            int shift = 8 * (i & 7);
            long begin = wordOf(text, i >> 3) << shift;
            return shift == 0 ? begin : begin | wordOf(text, (i >> 3) + 1) >>> 64 - shift;
        }

        private long wordOf(int text, int w) {
            return w < 0 || w >= wordsFor(heap.length(text)) ? 0 : heap.bitsAt(heap.first(text) + w);
        }

        private static int shiftOf(int i) {
            return 56 - 8 * (i & 7);
        }
    }

    /**
     * Maps by their handles, slots of their tables by where they stand. Slots are filled from the first
     * on, and one whose entry was removed is not filled again, so that orders rise from slot to slot.
     */
    private static final class Maps {
        private static final int FIRST_CAPACITY = 8;

        private static final int MAP_WORDS = 5;
        private static final int TABLE_WORD = 0;
        private static final int SHAPE_WORD = 1;
        private static final int ENTRIES_WORD = 2;
        private static final int ORDERS_WORD = 3;
        private static final int FILLED_WORD = 4;

        // The shape: how many key words, how many value words, which are textual, the capacity.
        private static final int VALUE_SHIFT = 3;
        private static final int TEXTS_SHIFT = 6;
        private static final int CAPACITY_SHIFT = 10;

        // A slot: its order and 1 (0 without an entry), two words that the document only counts, key, value.
        private static final int SLOT_EXTRA = 3;

        private final Heap heap;
        private final Texts texts;

        Maps(Heap heap, Texts texts) {
            this.heap = heap;
            this.texts = texts;
        }

        int newMap(int k, int v, int textual) {
            int tableWords = FIRST_CAPACITY * (SLOT_EXTRA + k + v);
            heap.needRoom(1 + MAP_WORDS + 1 + tableWords);
            int map = heap.place(MAP, MAP_WORDS);
            setField(map, SHAPE_WORD, k | v << VALUE_SHIFT | textual << TEXTS_SHIFT);
            useTable(map, heap.place(TABLE, tableWords), FIRST_CAPACITY);
            return map;
        }

        int entries(int map) {
            return field(map, ENTRIES_WORD);
        }

        int capacity(int map) {
            return field(map, SHAPE_WORD) >>> CAPACITY_SHIFT;
        }

        int entryWords(int map) {
            int shape = field(map, SHAPE_WORD);
            return (shape & 7) + (shape >>> VALUE_SHIFT & 7);
        }

        boolean hasTextualKey(int map, int at) {
            for (int i = 0; i < keyWords(map); i++) {
                int kind = heap.kindAt(at + i);
                if (isTextual(map, i) && kind != TEXT && kind != NIL) {
                    return false;
                }
            }
            return true;
        }

        /** Takes a row and a place, not where the words stand, as a collection may move them. */
        int enter(int map, int row, int place) {
            int slot = slotOfKey(map, heap.first(row) + place);
            if (slot != NONE) {
                int value = keyWords(map);
                heap.copyWords(slot + SLOT_EXTRA + value, heap.first(row) + place + value, valueWords(map));
                return orderIn(slot);
            }
            if (field(map, FILLED_WORD) >= capacity(map)) {
                int capacity = nextCapacity(map);
                moveEntries(map, heap.claim(TABLE, capacity * slotWords(map)), capacity);
            }
            return append(map, heap.first(row) + place);
        }

        int fetch(int map, int at) {
            int slot = slotOfKey(map, at);
            if (slot == NONE) {
                return NONE;
            }
            int value = keyWords(map);
            heap.copyWords(at + value, slot + SLOT_EXTRA + value, valueWords(map));
            return orderIn(slot);
        }

        int erase(int map, int at) {
            int slot = slotOfKey(map, at);
            if (slot == NONE) {
                return NONE;
            }
            int order = orderIn(slot);
            // All of it, as what a removed entry referred to must not be reached from here.
            heap.clearWords(slot, slotWords(map));
            setField(map, ENTRIES_WORD, entries(map) - 1);
            return order;
        }

        /** The slot of the first entry whose order is from or more, or NONE. */
        int slotFrom(int map, int from) {
            int width = slotWords(map);
            int end = slotsEnd(map, width);
            for (int slot = slotsStart(map); slot < end; slot += width) {
                if (orderIn(slot) != NONE && orderIn(slot) >= from) {
                    return slot;
                }
            }
            return NONE;
        }

        void readEntry(int map, int slot, int at) {
            heap.copyWords(at, slot + SLOT_EXTRA, entryWords(map));
        }

        int orderIn(int slot) {
            return (int) heap.bitsAt(slot) - 1;
        }

        private int slotOfKey(int map, int at) {
            int width = slotWords(map);
            int end = slotsEnd(map, width);
            for (int slot = slotsStart(map); slot < end; slot += width) {
                if (orderIn(slot) != NONE && alikeKeys(map, slot + SLOT_EXTRA, at)) {
                    return slot;
                }
            }
            return NONE;
        }

        private boolean alikeKeys(int map, int key, int other) {
            for (int i = 0; i < keyWords(map); i++) {
                boolean alike = isTextual(map, i)
                        ? texts.alike(heap.handleAt(key + i), heap.handleAt(other + i))
                        : heap.sameWords(key + i, other + i);
                if (!alike) {
                    return false;
                }
            }
            return true;
        }

        private int append(int map, int at) {
            int slot = slotsEnd(map, slotWords(map));
            int order = field(map, ORDERS_WORD);
            heap.setNumber(slot, order + 1);
            heap.copyWords(slot + SLOT_EXTRA, at, entryWords(map));
            freezeTexts(map, slot + SLOT_EXTRA);
            setField(map, FILLED_WORD, field(map, FILLED_WORD) + 1);
            setField(map, ORDERS_WORD, order + 1);
            setField(map, ENTRIES_WORD, entries(map) + 1);
            return order;
        }

        private void freezeTexts(int map, int key) {
            for (int i = 0; i < keyWords(map); i++) {
                int text = heap.handleAt(key + i);
                if (isTextual(map, i) && text != NOBODY) {
                    heap.freeze(text);
                }
            }
        }

        private int nextCapacity(int map) {
            int capacity = capacity(map);
            return 4 * entries(map) >= 3 * capacity ? 2 * capacity : capacity;
        }

        private void moveEntries(int map, int table, int capacity) {
            int to = heap.first(table);
            int width = slotWords(map);
            int end = slotsEnd(map, width);
            for (int slot = slotsStart(map); slot < end; slot += width) {
                if (orderIn(slot) != NONE) {
                    heap.copyWords(to, slot, width);
                    to += width;
                }
            }
            useTable(map, table, capacity);
            setField(map, FILLED_WORD, entries(map));
        }

        private void useTable(int map, int table, int capacity) {
            heap.setReference(heap.first(map) + TABLE_WORD, table, 0);
            int rest = field(map, SHAPE_WORD) & (1 << CAPACITY_SHIFT) - 1;
            setField(map, SHAPE_WORD, rest | capacity << CAPACITY_SHIFT);
        }

        private int slotsStart(int map) {
            return heap.first(heap.handleAt(heap.first(map) + TABLE_WORD));
        }

        private int slotsEnd(int map, int width) {
            return slotsStart(map) + field(map, FILLED_WORD) * width;
        }

        private int slotWords(int map) {
            return SLOT_EXTRA + entryWords(map);
        }

        private int keyWords(int map) {
            return field(map, SHAPE_WORD) & 7;
        }

        private int valueWords(int map) {
            return field(map, SHAPE_WORD) >>> VALUE_SHIFT & 7;
        }

        private boolean isTextual(int map, int i) {
            return (field(map, SHAPE_WORD) >>> TEXTS_SHIFT + i & 1) != 0;
        }

        private int field(int map, int i) {
            return (int) heap.bitsAt(heap.first(map) + i);
        }

        private void setField(int map, int i, int v) {
            heap.setNumber(heap.first(map) + i, v);
        }
    }
}
