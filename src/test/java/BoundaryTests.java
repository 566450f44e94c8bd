import java.lang.reflect.Array;
import java.lang.reflect.Field;
import java.lang.reflect.InvocationTargetException;
import java.lang.reflect.Method;
import java.lang.reflect.Modifier;
import java.util.ArrayList;
import java.util.Arrays;
import java.util.Comparator;
import java.util.List;
import java.util.NoSuchElementException;

/**
 * Every sentence of the document that names a boundary case, by a test of its own: a method promiseNN_what, NN being
 * the promise (or the one that a sentence of the Terms is seen by), with the sentence above it. A call that is refused
 * is made on one of two memories that were made alike, and all that can be seen of both is compared behind it.
 */
public final class BoundaryTests {
    private static final Class<? extends RuntimeException> ILLEGAL = IllegalArgumentException.class;
    private static final Class<? extends RuntimeException> UNSUPPORTED = UnsupportedOperationException.class;
    private static final Class<? extends RuntimeException> OUTSIDE = IndexOutOfBoundsException.class;
    private static final Class<? extends RuntimeException> IS_FULL = IllegalStateException.class;
    private static final Class<? extends RuntimeException> NO_ENTRY = NoSuchElementException.class;

    private static final int LEAST = Integer.MIN_VALUE;
    private static final int MOST = Integer.MAX_VALUE;
    private static final int[] NO_REGISTERS = {-1, 16, LEAST, MOST};

    // What the registers of mixed() are.
    private static final int ZERO = 0;
    private static final int LEAST_LONG = 1;
    private static final int NIL = 2;
    private static final int ROW = 3;
    private static final int ROW_MIDDLE = 4;
    private static final int ROW_END = 5;
    private static final int NO_WORDS = 6;
    private static final int NO_BYTES = 7;
    private static final int TEXT = 8;
    private static final int KEY_TEXT = 9;
    private static final int MAP = 10;
    private static final int EMPTY_MAP = 11;
    private static final int ENTRY = 12;
    private static final int TOO_SHORT = 13;
    private static final int NUMBERS = 14;
    private static final int MINUS_ONE = 15;
    private static final int[] NOT_ROWS = {ZERO, LEAST_LONG, NIL, NO_BYTES, TEXT, KEY_TEXT, MAP, EMPTY_MAP};
    private static final int[] NOT_TEXTS = {ZERO, LEAST_LONG, ROW, ROW_MIDDLE, ROW_END, NO_WORDS, MAP, EMPTY_MAP};
    private static final int[] NOT_MAPS = {ZERO, LEAST_LONG, NIL, ROW, ROW_END, NO_WORDS, NO_BYTES, TEXT, KEY_TEXT};

    private static String test = "";
    private static int wrong;
    private static int checks;

    private interface Memory {
        WordHeap made();
    }

    private interface Limited {
        WordHeap made(int limit);
    }

    private interface Use {
        void on(WordHeap x);
    }

    private interface RegisterUse {
        void on(WordHeap x, int r);
    }

    private interface Answer {
        int of(WordHeap x);
    }

    // ---------------------------------------------------------------- what is due

    private static void fail(String what) {
        wrong++;
        System.out.println(test + ": " + what);
    }

    private static void due(String what, long got, long want) {
        checks++;
        if (got != want) {
            fail(what + " answered " + got + ", due is " + want);
        }
    }

    private static void due(String what, boolean got, boolean want) {
        due(what, got ? 1 : 0, want ? 1 : 0);
    }

    private static Class<?> thrownBy(WordHeap x, Use use) {
        try {
            use.on(x);
            return null;
        } catch (RuntimeException e) {
            return e.getClass();
        }
    }

    /** Makes the call on x, which stays in use: for refused calls whose state the test looks at by itself. */
    private static void throwing(Class<?> want, String what, WordHeap x, Use use) {
        checks++;
        Class<?> got = thrownBy(x, use);
        if (got != want) {
            fail(what + " threw " + got + ", due is " + want);
        }
    }

    /** The call throws and changes nothing, not even by a collection, also where the memory is eager. */
    private static void refused(Class<?> want, String what, Memory memory, Use use) {
        throwing(want, what, memory.made(), use);
        alike(what, memory, x -> thrownBy(x, use), x -> { });
        Memory eager = () -> eagerOne(memory.made());
        throwing(want, what + ", eager", eager.made(), use);
        alike(what + ", eager", eager, x -> thrownBy(x, use), x -> { });
    }

    /** The call throws, and what is seen is what a collection alone leaves. */
    private static void full(String what, Memory memory, Use use) {
        throwing(IS_FULL, what, memory.made(), use);
        alike(what, memory, x -> thrownBy(x, use), x -> x.collect());
        Memory eager = () -> eagerOne(memory.made());
        throwing(IS_FULL, what + ", eager", eager.made(), use);
        alike(what + ", eager", eager, x -> thrownBy(x, use), x -> x.collect());
    }

    private static void noRegister(String what, RegisterUse use) {
        for (int r : NO_REGISTERS) {
            refused(ILLEGAL, what + " with register " + r, BoundaryTests::mixed, x -> use.on(x, r));
        }
        // The first and the last of the sixteen are there: whatever is thrown, it is not for the register.
        for (int r : new int[] {0, 15}) {
            WordHeap x = mixed();
            due(what + " with register " + r, thrownBy(x, y -> use.on(y, r)) == ILLEGAL, false);
        }
    }

    private static WordHeap eagerOne(WordHeap x) {
        x.eager(true);
        return x;
    }

    // ---------------------------------------------------------------- all that can be seen

    private static void alike(String what, Memory memory, Use use, Use other) {
        same(what, look(memory, use), look(memory, other));
    }

    private static void same(String what, List<String> got, List<String> want) {
        checks++;
        for (int i = 0; i < Math.max(got.size(), want.size()); i++) {
            String g = i < got.size() ? got.get(i) : "nothing";
            String w = i < want.size() ? want.get(i) : "nothing";
            if (!g.equals(w)) {
                fail(what + ": seen is " + g + ", due is " + w);
                return;
            }
        }
    }

    private static WordHeap behind(Memory memory, Use use) {
        WordHeap x = memory.made();
        use.on(x);
        return x;
    }

    private static List<String> look(Memory memory, Use use) {
        List<String> seen = new ArrayList<>();
        WordHeap x = behind(memory, use);
        for (int what = 0; what < 5; what++) {
            seen.add("total " + what + " " + x.total(what));
        }
        seen.addAll(lookAtWords(memory, use));
        for (int r = 0; r < 16; r++) {
            if (x.tell(r, 0) == 4) {
                lookAtRoom(behind(memory, use), r, seen);
            }
        }
        lookAtNext(behind(memory, use), seen);
        return seen;
    }

    /** Registers and what they refer to; each register by a memory of its own, as looking uses up the others. */
    private static List<String> lookAtWords(Memory memory, Use use) {
        List<String> seen = new ArrayList<>();
        WordHeap x = behind(memory, use);
        for (int r = 0; r < 16; r++) {
            seen.add("register " + r + ": " + describe(x, r));
            for (int s = 0; s < r; s++) {
                seen.add("register " + r + " and " + s + ": " + x.same(r, s));
            }
        }
        for (int r = 0; r < 16; r++) {
            lookInto(behind(memory, use), r, "register " + r, 0, seen);
        }
        return seen;
    }

    private static String describe(WordHeap x, int r) {
        if (x.tell(r, 0) == 0) {
            return "number " + x.value(r);
        }
        StringBuilder seen = new StringBuilder();
        for (int what = 0; what < 5; what++) {
            seen.append(what).append(" is ").append(x.tell(r, what)).append(" ");
        }
        return seen.toString();
    }

    private static void lookInto(WordHeap x, int r, String path, int depth, List<String> seen) {
        switch (x.tell(r, 0)) {
            case 2:
                lookIntoRow(x, r, path, depth, seen);
                break;
            case 3:
                lookIntoText(x, r, path, seen);
                break;
            case 4:
                lookIntoMap(x, r, path, depth, seen);
                break;
            default:
                break;
        }
    }

    private static void lookIntoRow(WordHeap x, int r, String path, int depth, List<String> seen) {
        int next = r + 1 & 15;
        int place = x.tell(r, 2);
        for (int i = 0; i < x.tell(r, 3); i++) {
            x.load(next, r, i - place);
            seen.add(path + " word " + i + ": " + describe(x, next));
            if (depth < 2) {
                lookInto(x, next, path + " word " + i, depth + 1, seen);
            }
        }
    }

    private static void lookIntoText(WordHeap x, int r, String path, List<String> seen) {
        StringBuilder bytes = new StringBuilder();
        for (int i = 0; i < x.tell(r, 3); i++) {
            bytes.append(" ").append(x.byteAt(r, i));
        }
        int first = x.tell(r, 3) > 0 ? x.byteAt(r, 0) : 0;
        seen.add(path + " bytes" + bytes + ", to be changed: " + thrownBy(x, y -> y.setByte(r, 0, first)));
    }

    private static void lookIntoMap(WordHeap x, int r, String path, int depth, List<String> seen) {
        int row = r + 1 & 15;
        boolean readable = depth == 0 && makesRow(x, r, row);
        for (int order = x.next(r, 0); order >= 0; order = x.next(r, order + 1)) {
            seen.add(path + " entry " + order);
            if (readable) {
                x.entry(r, order, row);
                lookIntoRow(x, row, path + " entry " + order, 1, seen);
            }
        }
    }

    /** A row for any entry of the map in r; all else is let go, so that there is room where there can be. */
    private static boolean makesRow(WordHeap x, int r, int row) {
        for (int other = 0; other < 16; other++) {
            if (other != r) {
                x.nil(other);
            }
        }
        return thrownBy(x, y -> y.make(row, 8)) == null;
    }

    /** How many entries with new keys go into a map before it takes a new table. */
    private static void lookAtRoom(WordHeap x, int r, List<String> seen) {
        int row = r + 1 & 15;
        int text = r + 2 & 15;
        if (!makesRow(x, r, row)) {
            seen.add("no room for a row");
            return;
        }
        for (int puts = 0; puts < 20; puts++) {
            int bytes = 50 + puts;
            if (thrownBy(x, y -> y.text(text, bytes)) != null) {
                seen.add("no room for a text behind " + puts);
                return;
            }
            for (int i = 0; i < 8; i++) {
                x.store(row, i, text);
            }
            int used = x.total(0);
            int collections = x.total(3);
            int order = putOrMinusTwo(x, r, row);
            if (x.total(0) != used || x.total(3) != collections) {
                seen.add("map " + r + " has a new table behind " + puts + ": " + describe(x, r) + "order " + order);
                return;
            }
        }
    }

    private static int putOrMinusTwo(WordHeap x, int m, int s) {
        try {
            return x.put(m, s);
        } catch (IllegalStateException e) {
            return -2;
        }
    }

    /** The number of the next object, and whether the memory is eager. */
    private static void lookAtNext(WordHeap x, List<String> seen) {
        for (int r = 0; r < 16; r++) {
            x.nil(r);
        }
        x.collect();
        int collections = x.total(3);
        seen.add("next number " + x.make(0, 0) + ", eager " + (x.total(3) - collections));
    }

    // ---------------------------------------------------------------- memories

    private static void text(WordHeap x, int r, String s) {
        x.text(r, s.length());
        for (int i = 0; i < s.length(); i++) {
            x.setByte(r, i, s.charAt(i));
        }
    }

    /** Word k behind the reference in s becomes the number v; register 15 is used up. */
    private static void storeNumber(WordHeap x, int s, int k, long v) {
        x.number(15, v);
        x.store(s, k, 15);
    }

    private static long loadNumber(WordHeap x, int s, int k) {
        x.load(15, s, k);
        return x.value(15);
    }

    private static int putNumbers(WordHeap x, int m, int s, long... words) {
        for (int i = 0; i < words.length; i++) {
            storeNumber(x, s, i, words[i]);
        }
        return x.put(m, s);
    }

    private static int getNumber(WordHeap x, int m, int s, long key) {
        storeNumber(x, s, 0, key);
        return x.get(m, s);
    }

    private static int removeNumber(WordHeap x, int m, int s, long key) {
        storeNumber(x, s, 0, key);
        return x.remove(m, s);
    }

    private static WordHeap mixed() {
        return mixed(5000);
    }

    private static final int MIXED_USED = 124;
    private static final int MIXED_LOST = 8;
    private static final int MIXED_MADE = 12;

    /** Words of every sort, and some that can't be reached, so that a collection that is not due can be seen. */
    private static WordHeap mixed(int limit) {
        WordHeap x = new WordHeap(limit);
        x.map(MAP, 2, 1, 1);
        x.map(EMPTY_MAP, 1, 0, 0);
        text(x, KEY_TEXT, "key");
        text(x, TEXT, "abcdefghi");
        x.make(ENTRY, 3);
        x.store(ENTRY, 0, KEY_TEXT);
        storeNumber(x, ENTRY, 1, 1);
        storeNumber(x, ENTRY, 2, 90);
        x.put(MAP, ENTRY);
        text(x, 15, "gone");
        x.store(ENTRY, 0, 15);
        x.put(MAP, ENTRY);
        x.remove(MAP, ENTRY);
        text(x, 15, "key");
        x.store(ENTRY, 0, 15);
        storeNumber(x, ENTRY, 2, 77);
        x.shift(TOO_SHORT, ENTRY, 1);
        x.make(NUMBERS, 3);
        x.make(ROW, 4);
        storeNumber(x, ROW, 0, 5);
        x.store(ROW, 1, ENTRY);
        x.store(ROW, 2, TEXT);
        x.store(ROW, 3, NIL);
        x.shift(ROW_MIDDLE, ROW, 2);
        x.shift(ROW_END, ROW, 4);
        x.make(NO_WORDS, 0);
        x.text(NO_BYTES, 0);
        x.make(15, 5);
        x.number(ZERO, 0);
        x.number(LEAST_LONG, Long.MIN_VALUE);
        x.number(MINUS_ONE, -1);
        return x;
    }

    private static WordHeap mixedAndFull() {
        return mixed(MIXED_USED);
    }

    private static final int EDGES_USED = 64;
    private static final int EDGES_LOST = 3;

    /** Register 0 a text of 80 bytes, 2 a map of 8 entries, 3 a row with a key that is new, 3 words out of reach. */
    private static WordHeap edges(int limit) {
        WordHeap x = new WordHeap(limit);
        x.make(1, 2);
        x.nil(1);
        x.text(0, 80);
        x.setByte(0, 0, 'a');
        x.setByte(0, 79, 'z');
        x.map(2, 1, 1, 0);
        x.make(3, 2);
        for (int i = 0; i < 9; i++) {
            storeNumber(x, 3, 0, i);
            storeNumber(x, 3, 1, 10 * i);
            if (i < 8) {
                x.put(2, 3);
            }
        }
        return x;
    }

    /**
     * When USED + n is the LIMIT, nothing is collected; a word less, and a collection comes first; when USED + n is
     * the LIMIT behind it, all is well; a word less, and it is FULL.
     */
    private static void roomEdges(String what, int n, int answer, Answer use) {
        int most = EDGES_USED + n;
        due(what + ": used before", edges(most).total(0), EDGES_USED);
        roomEdge(what + " up to the limit", edges(most), use, new int[] {answer, most, 0, 0});
        int[] collected = {answer, most - EDGES_LOST, 1, EDGES_LOST};
        roomEdge(what + " one beyond", edges(most - 1), use, collected);
        roomEdge(what + " up to the limit behind a collection", edges(most - EDGES_LOST), use, collected);
        roomEdge(what + " where it is eager", eagerOne(edges(most)), use, collected);
        List<String> want = lookAtWords(() -> edges(5000), use::of);
        same(what, lookAtWords(() -> edges(most), use::of), want);
        same(what + ", collected", lookAtWords(() -> edges(most - EDGES_LOST), use::of), want);
        same(what + ", eager", lookAtWords(() -> eagerOne(edges(most)), use::of), want);
        full(what + " in a full memory", () -> edges(most - EDGES_LOST - 1), use::of);
    }

    private static void roomEdge(String what, WordHeap x, Answer use, int[] want) {
        due(what, use.of(x), want[0]);
        due(what + ": used", x.total(0), want[1]);
        due(what + ": collections", x.total(3), want[2]);
        due(what + ": given back", x.total(4), want[3]);
    }

    // ---------------------------------------------------------------- promise 1: a new object

    /** "There are 16 REGISTERS 0 .. 15, each of a word (NIL at first)." */
    private static void promise01_registersAreNilAtFirst() {
        WordHeap x = new WordHeap(64);
        for (int r = 0; r < 16; r++) {
            for (int what = 0; what < 5; what++) {
                due("tell " + r + " " + what, x.tell(r, what), what == 0 ? 1 : 0);
            }
        }
    }

    /** "Nothing but registers." */
    private static void promise01_nothingButRegisters() {
        WordHeap x = new WordHeap(100);
        for (int what = 0; what < 5; what++) {
            due("total " + what, x.total(what), what == 1 ? 100 : 0);
        }
        due("collect", x.collect(), 0);
        due("the first number", x.make(0, 0), 1);
        due("two memories are two", new WordHeap(100).make(0, 0), 1);
    }

    /** "The LIMIT is limit, but 64 at least." */
    private static void promise01_limitOf64AtLeast() {
        for (int limit : new int[] {LEAST, -64, -1, 0, 1, 63, 64}) {
            WordHeap x = new WordHeap(limit);
            due("the limit of " + limit, x.total(1), 64);
            throwing(IS_FULL, "65 words", x, y -> y.make(0, 64));
            due("64 words", x.make(0, 63), 1);
            due("used", x.total(0), 64);
        }
        WordHeap x = new WordHeap(65);
        due("the limit of 65", x.total(1), 65);
        throwing(IS_FULL, "66 words", x, y -> y.make(0, 65));
        due("65 words", x.make(0, 64), 1);
    }

    /** "and 131072 at most." */
    private static void promise01_limitOf131072AtMost() {
        due("the limit of 131071", new WordHeap(131071).total(1), 131071);
        for (int limit : new int[] {131072, 131073, 262144, MOST}) {
            WordHeap x = new WordHeap(limit);
            due("the limit of " + limit, x.total(1), 131072);
            for (int i = 0; i < 31; i++) {
                x.make(1, 4096);
                x.store(1, 0, 0);
                storeNumber(x, 1, 4095, i);
                x.move(0, 1);
            }
            int rest = 131072 - 31 * 4097;
            due("up to the limit", x.make(2, rest - 1), 32);
            due("used", x.total(0), 131072);
            due("collections", x.total(3), 0);
            throwing(IS_FULL, "a word more", x, y -> y.make(3, 0));
            due("used", x.total(0), 131072);
            for (int i = 30; i >= 0; i--) {
                due("last word", loadNumber(x, 0, 4095), i);
                x.load(0, 0, 0);
            }
        }
    }

    /** "All memory is the class's own: long[] and boolean[] that are doubled up to the limit." */
    private static void promise01_memoryUpToTheLimit() throws IllegalAccessException {
        for (int limit : new int[] {64, 5000, 131072}) {
            WordHeap x = new WordHeap(limit);
            due("few words at first", longestArray(x) <= 128, true);
            for (int i = 0; i < 40; i++) {
                x.make(0, 0);
            }
            while (x.total(0) < limit) {
                x.make(0, Math.min(limit - x.total(0) - 1, limit > 64 ? 4096 : 0));
            }
            due("collections", x.total(3), 0);
            due("no more than the limit, the registers and NIL", longestArray(x) <= limit + 17, true);
        }
    }

    private static int longestArray(Object x) throws IllegalAccessException {
        int longest = 0;
        for (Field field : x.getClass().getDeclaredFields()) {
            field.setAccessible(true);
            Class<?> type = field.getType();
            if (Modifier.isStatic(field.getModifiers()) || type.isPrimitive()) {
                continue;
            }
            if (type.getEnclosingClass() == WordHeap.class) {
                longest = Math.max(longest, longestArray(field.get(x)));
            } else {
                due(field + " is memory", type == long[].class || type == boolean[].class, true);
                longest = Math.max(longest, Array.getLength(field.get(x)));
            }
        }
        return longest;
    }

    // ---------------------------------------------------------------- promises 2 to 4: number, nil, move

    /** "IllegalArgumentException: there is no such register." */
    private static void promise02_noSuchRegister() {
        noRegister("number", (x, r) -> x.number(r, 7));
    }

    /** "Register r becomes a number", of 64 bits. */
    private static void promise02_numbersOf64Bits() {
        for (long v : new long[] {0, -1, Long.MIN_VALUE, Long.MAX_VALUE, 1L << 32, 1L << 63 >>> 1, 8192}) {
            for (int r : new int[] {0, 15}) {
                WordHeap x = mixed();
                x.number(r, v);
                due("value", x.value(r), v);
                due("sort", x.tell(r, 0), 0);
            }
        }
    }

    /** What a register was does not matter: a reference is gone. */
    private static void promise02_numberInsteadOfAReference() {
        for (int r = 0; r < 16; r++) {
            WordHeap x = mixed();
            x.number(r, 3);
            due("value of " + r, x.value(r), 3);
        }
        WordHeap x = new WordHeap(64);
        x.make(0, 3);
        x.number(0, 0);
        due("its object is not reached", x.collect(), 4);
    }

    /** "IllegalArgumentException: no such register." */
    private static void promise03_noSuchRegister() {
        noRegister("nil", (x, r) -> x.nil(r));
    }

    private static void promise03_nilInsteadOfAnything() {
        for (int r = 0; r < 16; r++) {
            WordHeap x = mixed();
            x.nil(r);
            due("sort of " + r, x.tell(r, 0), 1);
            due("the same as NIL", x.same(r, NIL), true);
        }
        WordHeap x = new WordHeap(64);
        x.make(0, 3);
        x.nil(0);
        due("its object is not reached", x.collect(), 4);
    }

    /** "IllegalArgumentException: no such register." */
    private static void promise04_noSuchRegister() {
        noRegister("move to", (x, r) -> x.move(r, ROW));
        noRegister("move from", (x, r) -> x.move(ROW, r));
        for (int r : NO_REGISTERS) {
            refused(ILLEGAL, "move of " + r + " to itself", BoundaryTests::mixed, x -> x.move(r, r));
        }
    }

    private static void promise04_anyRegisterToAny() {
        for (int r = 0; r < 16; r++) {
            for (int s = 0; s < 16; s++) {
                WordHeap x = mixed();
                String want = describe(x, s);
                x.move(r, s);
                due("move " + r + " " + s, describe(x, r).equals(want), true);
                due("the same", x.same(r, s), true);
            }
        }
    }

    private static void promise04_toItselfChangesNothing() {
        for (int r = 0; r < 16; r++) {
            int at = r;
            alike("move of " + r, BoundaryTests::mixed, x -> x.move(at, at), x -> { });
        }
    }

    // ---------------------------------------------------------------- promise 5: make

    /** "IllegalArgumentException: no such register." */
    private static void promise05_noSuchRegister() {
        noRegister("make", (x, r) -> x.make(r, 1));
    }

    /** "or n is not 0 .. 4096." */
    private static void promise05_wordsOf0To4096() {
        for (int n : new int[] {-1, 4097, LEAST, MOST, -4096, 65536}) {
            refused(ILLEGAL, "make of " + n, BoundaryTests::mixed, x -> x.make(ROW, n));
        }
        for (int n : new int[] {0, 1, 4095, 4096}) {
            WordHeap x = mixed();
            due("make of " + n, x.make(ROW, n), x.total(2));
            due("its words", x.tell(ROW, 3), n);
            due("its place", x.tell(ROW, 2), 0);
            due("its sort", x.tell(ROW, 0), 2);
        }
    }

    /** IllegalArgumentException is listed before IllegalStateException. */
    private static void promise05_illegalBeforeFull() {
        refused(ILLEGAL, "make of 4097", BoundaryTests::mixedAndFull, x -> x.make(ROW, 4097));
        refused(ILLEGAL, "make of -1", BoundaryTests::mixedAndFull, x -> x.make(ROW, -1));
        refused(ILLEGAL, "make in 16", BoundaryTests::mixedAndFull, x -> x.make(16, 4096));
    }

    /** "ROWS have words 0, 1, .., all the number 0 at first", whatever stood there before. */
    private static void promise05_wordsAreTheNumber0AtFirst() {
        WordHeap x = new WordHeap(64);
        x.make(0, 63);
        for (int i = 0; i < 63; i++) {
            x.store(0, i, i % 2 == 0 ? 0 : 5);
        }
        x.nil(0);
        due("make", x.make(1, 63), 2);
        for (int i = 0; i < 63; i++) {
            x.load(2, 1, i);
            due("the sort of word " + i, x.tell(2, 0), 0);
            due("word " + i, x.value(2), 0);
        }
    }

    /** "An object takes one more word than it has: a ROW its words." */
    private static void promise05_takesOneWordMore() {
        for (int n : new int[] {0, 1, 2, 4095, 4096}) {
            WordHeap x = new WordHeap(5000);
            x.make(0, n);
            due("a row of " + n, x.total(0), n + 1);
        }
    }

    /** "USED + n would be more than the LIMIT"; "IllegalStateException: FULL." */
    private static void promise05_upToTheLimitAndBeyond() {
        roomEdges("make", 21, 5, x -> x.make(4, 20));
        roomEdges("make in a register with an object", 21, 5, x -> x.make(0, 20));
    }

    /** Rows of no words take one each: as many go in as the LIMIT is, and more behind collections. */
    private static void promise05_asManyObjectsAsTheLimit() {
        for (int limit : new int[] {64, 65, 127, 128, 129, 200}) {
            WordHeap x = new WordHeap(limit);
            for (int i = 1; i < limit; i++) {
                due("make", x.make(i % 16, 0), i);
            }
            due("the last", x.make(0, 0), limit);
            due("used", x.total(0), limit);
            due("collections", x.total(3), 0);
            for (int i = limit + 1; i <= limit + 200; i++) {
                due("make", x.make(i % 16, 0), i);
            }
            due("used", x.total(0) <= limit, true);
            x.collect();
            due("used", x.total(0), 16);
        }
    }

    /** "nothing is made or changed, but that collection stays." */
    private static void promise05_fullChangesNothing() {
        full("make of 8", BoundaryTests::mixedAndFull, x -> x.make(ROW, MIXED_LOST));
        full("make of 4096", BoundaryTests::mixedAndFull, x -> x.make(ZERO, 4096));
        full("more than the whole limit", () -> new WordHeap(64), x -> x.make(0, 64));
        WordHeap x = mixedAndFull();
        due("make of 7", x.make(ROW, MIXED_LOST - 1), MIXED_MADE + 1);
        due("collections", x.total(3), 1);
    }

    /** What register r refers to is still reached by the collection that comes first. */
    private static void promise05_theRegisterItselfIsReached() {
        WordHeap x = new WordHeap(64);
        x.make(0, 40);
        throwing(IS_FULL, "make", x, y -> y.make(0, 30));
        due("its row stays", x.tell(0, 1), 1);
        due("used", x.total(0), 41);
        x.nil(0);
        due("make", x.make(0, 30), 2);
    }

    /** "Each has a NUMBER: it is the 1st, 2nd, .. that was made", also behind refused calls and collections. */
    private static void promise05_numbersGoOn() {
        WordHeap x = new WordHeap(64);
        due("a row", x.make(0, 1), 1);
        throwing(ILLEGAL, "make", x, y -> y.make(0, -1));
        throwing(IS_FULL, "make", x, y -> y.make(0, 64));
        due("a text", x.text(0, 1), 2);
        x.collect();
        due("a map", x.map(0, 1, 0, 0), 3);
        x.nil(0);
        x.collect();
        due("a joined text", x.join(0, 1, 1), 4);
        due("a part", x.part(0, 1, 0, 0), 5);
        due("made", x.total(2), 5);
    }

    // ---------------------------------------------------------------- promise 6: text

    private static void promise06_noSuchRegister() {
        noRegister("text", (x, r) -> x.text(r, 1));
    }

    /** "a new TEXT of n bytes (0 .. 32768)." */
    private static void promise06_bytesOf0To32768() {
        for (int n : new int[] {-1, 32769, LEAST, MOST, -32768, 65536}) {
            refused(ILLEGAL, "text of " + n, BoundaryTests::mixed, x -> x.text(TEXT, n));
        }
        for (int n : new int[] {0, 1, 32767, 32768}) {
            WordHeap x = mixed();
            due("text of " + n, x.text(TEXT, n), x.total(2));
            due("its bytes", x.tell(TEXT, 3), n);
            due("its place", x.tell(TEXT, 2), 0);
            due("its sort", x.tell(TEXT, 0), 3);
        }
    }

    private static void promise06_illegalBeforeFull() {
        refused(ILLEGAL, "text of 32769", BoundaryTests::mixedAndFull, x -> x.text(TEXT, 32769));
        refused(ILLEGAL, "text in 16", BoundaryTests::mixedAndFull, x -> x.text(16, 32768));
    }

    /** "a TEXT one for each eight bytes (rounded up)", and one more. */
    private static void promise06_takesAWordForEachEightBytes() {
        int[][] takes = {{0, 1}, {1, 2}, {7, 2}, {8, 2}, {9, 3}, {15, 3}, {16, 3}, {17, 4}, {32760, 4096}, {32761, 4097},
            {32767, 4097}, {32768, 4097}};
        for (int[] t : takes) {
            WordHeap x = new WordHeap(5000);
            x.text(0, t[0]);
            due("a text of " + t[0], x.total(0), t[1]);
        }
    }

    /** "TEXTS have bytes (0 at first)", whatever stood there before. */
    private static void promise06_bytesAre0AtFirst() {
        for (int n = 1; n <= 17; n++) {
            WordHeap x = new WordHeap(64);
            x.make(0, 63);
            for (int i = 0; i < 63; i++) {
                storeNumber(x, 0, i, -1);
            }
            x.nil(0);
            x.collect();
            x.text(1, n);
            for (int i = 0; i < n; i++) {
                due("byte " + i, x.byteAt(1, i), 0);
            }
            // Nothing behind the last byte counts either.
            x.part(2, 1, 0, n);
            due("compare", x.compare(1, 2), 0);
        }
    }

    private static void promise06_upToTheLimitAndBeyond() {
        roomEdges("text", 21, 5, x -> x.text(4, 160));
        roomEdges("text, its last word begun", 21, 5, x -> x.text(4, 153));
        full("text", BoundaryTests::mixedAndFull, x -> x.text(TEXT, 8 * MIXED_LOST - 7));
        WordHeap x = mixedAndFull();
        due("text", x.text(TEXT, 8 * MIXED_LOST - 8), MIXED_MADE + 1);
    }

    // ---------------------------------------------------------------- promise 7: map

    private static void promise07_noSuchRegister() {
        noRegister("map", (x, r) -> x.map(r, 1, 1, 0));
    }

    /** "KEYS of k words (1 .. 4)"; "IllegalArgumentException also when k, v or texts are not so." */
    private static void promise07_keysOf1To4Words() {
        for (int k : new int[] {0, 5, -1, LEAST, MOST, 8, 32, 33, 64, 65}) {
            refused(ILLEGAL, "map with keys of " + k, BoundaryTests::mixed, x -> x.map(MAP, k, 1, 0));
        }
        for (int k = 1; k <= 4; k++) {
            WordHeap x = mixed();
            due("keys of " + k, x.map(MAP, k, 1, 0), MIXED_MADE + 1);
            due("its sort", x.tell(MAP, 0), 4);
        }
    }

    /** "a value of v words (0 .. 4)." */
    private static void promise07_valuesOf0To4Words() {
        for (int v : new int[] {-1, 5, LEAST, MOST, 8}) {
            refused(ILLEGAL, "map with values of " + v, BoundaryTests::mixed, x -> x.map(MAP, 1, v, 0));
        }
        for (int v = 0; v <= 4; v++) {
            WordHeap x = mixed();
            due("values of " + v, x.map(MAP, 1, v, 0), MIXED_MADE + 1);
        }
    }

    /** "texts (0 .. 2^k - 1)." */
    private static void promise07_textsOfTheKeysWordsAlone() {
        for (int k = 1; k <= 4; k++) {
            int words = k;
            for (int texts : new int[] {-1, 1 << k, (1 << k) + 1, 16, 31, LEAST, MOST}) {
                refused(ILLEGAL, "map of " + k + " with texts " + texts, BoundaryTests::mixed,
                        x -> x.map(MAP, words, 1, texts));
            }
            for (int texts = 0; texts < 1 << k; texts++) {
                due("map of " + k + " with texts " + texts, mixed().map(MAP, k, 1, texts), MIXED_MADE + 1);
            }
        }
    }

    private static void promise07_illegalBeforeFull() {
        refused(ILLEGAL, "keys of 5", BoundaryTests::mixedAndFull, x -> x.map(MAP, 5, 4, 0));
        refused(ILLEGAL, "values of 5", BoundaryTests::mixedAndFull, x -> x.map(MAP, 4, 5, 0));
        refused(ILLEGAL, "texts of 16", BoundaryTests::mixedAndFull, x -> x.map(MAP, 4, 4, 16));
        refused(ILLEGAL, "register 16", BoundaryTests::mixedAndFull, x -> x.map(16, 4, 4, 0));
    }

    /** "word i of a key is textual when bit i of texts is 1." */
    private static void promise07_bitsOfTexts() {
        for (int texts = 0; texts < 16; texts++) {
            WordHeap x = new WordHeap(500);
            x.map(0, 4, 0, texts);
            x.make(1, 4);
            for (int w = 0; w < 4; w++) {
                for (int i = 0; i < 4; i++) {
                    x.store(1, i, 2);
                }
                storeNumber(x, 1, w, 5);
                boolean textual = (texts & 1 << w) != 0;
                due("a number as word " + w + " of " + texts, thrownBy(x, y -> y.put(0, 1)) == UNSUPPORTED, textual);
            }
        }
    }

    /** "a MAP 5, and its TABLE: one word more than c * (3 + k + v). The CAPACITY c is 8 at first." */
    private static void promise07_takesItselfAndItsTable() {
        for (int k = 1; k <= 4; k++) {
            for (int v = 0; v <= 4; v++) {
                WordHeap x = new WordHeap(500);
                x.map(0, k, v, 0);
                due("a map of " + k + " and " + v, x.total(0), 6 + 1 + 8 * (3 + k + v));
                due("its capacity", x.tell(0, 4), 8);
                due("its entries", x.tell(0, 3), 0);
                due("made", x.total(2), 1);
            }
        }
    }

    /** "a map and its table are made as one, n being what both take." */
    private static void promise07_mapAndTableAsOne() {
        roomEdges("map", 47, 5, x -> x.map(4, 1, 1, 0));
        WordHeap x = mixedAndFull();
        // Room for the map, but not for its table: neither is made.
        full("map", BoundaryTests::mixedAndFull, y -> y.map(ZERO, 1, 0, 0));
        x.nil(MAP);
        due("map", x.map(ZERO, 1, 0, 0), MIXED_MADE + 1);
        due("collections", x.total(3), 1);
        WordHeap z = eagerOne(new WordHeap(64));
        z.map(0, 2, 2, 0);
        due("one collection for both", z.total(3), 1);
        due("used", z.total(0), 63);
    }

    // ---------------------------------------------------------------- promise 8: join

    private static void promise08_noSuchRegister() {
        noRegister("join in", (x, r) -> x.join(r, TEXT, TEXT));
        noRegister("join of", (x, r) -> x.join(TEXT, r, TEXT));
        noRegister("join with", (x, r) -> x.join(TEXT, TEXT, r));
    }

    /** "UnsupportedOperationException: s or t is neither a TEXT nor NIL." */
    private static void promise08_neitherATextNorNil() {
        for (int s : NOT_TEXTS) {
            refused(UNSUPPORTED, "join of " + s, BoundaryTests::mixed, x -> x.join(MINUS_ONE, s, TEXT));
            refused(UNSUPPORTED, "join with " + s, BoundaryTests::mixed, x -> x.join(MINUS_ONE, TEXT, s));
            refused(UNSUPPORTED, "join of NIL with " + s, BoundaryTests::mixed, x -> x.join(MINUS_ONE, NIL, s));
        }
    }

    /** Memory of two texts, s and t bytes long, in registers 0 and 1. */
    private static WordHeap twoTexts(int s, int t) {
        WordHeap x = new WordHeap(20000);
        x.text(0, s);
        x.text(1, t);
        if (s > 0) {
            x.setByte(0, s - 1, 's');
        }
        if (t > 0) {
            x.setByte(1, t - 1, 't');
        }
        return x;
    }

    /** "or it would have more than 32768 bytes." */
    private static void promise08_atMost32768Bytes() {
        int[][] allowed = {{32768, 0}, {0, 32768}, {32767, 1}, {1, 32767}, {16384, 16384}, {32760, 8}, {16383, 16385}};
        for (int[] a : allowed) {
            WordHeap x = twoTexts(a[0], a[1]);
            due("join of " + Arrays.toString(a), x.join(2, 0, 1), 3);
            due("its bytes", x.tell(2, 3), 32768);
            due("its last byte", x.byteAt(2, 32767), a[1] > 0 ? 't' : 's');
            if (a[0] > 0) {
                due("the last byte of the first", x.byteAt(2, a[0] - 1), 's');
            }
        }
        int[][] denied = {{32768, 1}, {1, 32768}, {32768, 32768}, {16384, 16385}};
        for (int[] d : denied) {
            WordHeap x = twoTexts(d[0], d[1]);
            throwing(UNSUPPORTED, "join of " + Arrays.toString(d), x, y -> y.join(0, 0, 1));
            due("register 0 stays", x.tell(0, 3), d[0]);
            due("made", x.total(2), 2);
            due("collections", x.total(3), 0);
            due("used", x.total(0), 2 + (d[0] + 7) / 8 + (d[1] + 7) / 8);
        }
        WordHeap x = twoTexts(32768, 0);
        throwing(UNSUPPORTED, "join to itself", x, y -> y.join(2, 0, 0));
        due("join with NIL", x.join(2, 0, 3), 3);
        due("its bytes", x.tell(2, 3), 32768);
    }

    /** Exceptions in the order in which they are listed. */
    private static void promise08_theFirstListed() {
        refused(ILLEGAL, "register before sort", BoundaryTests::mixed, x -> x.join(16, ROW, ROW));
        refused(ILLEGAL, "register before sort", BoundaryTests::mixed, x -> x.join(0, ROW, -1));
        refused(ILLEGAL, "register before sort", BoundaryTests::mixed, x -> x.join(0, 16, ROW));
        refused(UNSUPPORTED, "sort before full", BoundaryTests::mixedAndFull, x -> x.join(0, TEXT, ROW));
        WordHeap x = new WordHeap(4098);
        x.text(0, 32768);
        throwing(UNSUPPORTED, "too long before full", x, y -> y.join(1, 0, 0));
        due("collections", x.total(3), 0);
    }

    /** "(NIL has none)", and neither has a TEXT of no bytes. */
    private static void promise08_nilAndNoBytes() {
        int[] none = {NIL, NO_BYTES};
        for (int s : none) {
            for (int t : none) {
                WordHeap x = mixed();
                due("join of none", x.join(0, s, t), MIXED_MADE + 1);
                due("its sort", x.tell(0, 0), 3);
                due("its bytes", x.tell(0, 3), 0);
                due("used", x.total(0), MIXED_USED + 1);
            }
            WordHeap x = mixed();
            x.join(0, s, TEXT);
            x.join(1, TEXT, s);
            due("compare", x.compare(0, TEXT), 0);
            due("compare", x.compare(1, TEXT), 0);
            due("another object", x.same(0, TEXT), false);
        }
    }

    /** "one behind the other", at every byte of a word. */
    private static void promise08_oneBehindTheOther() {
        String all = "abcdefghijklmnopqrstuvwxyz\u00ff\u0000\u0080";
        for (int i = 0; i <= all.length(); i++) {
            for (int j = i; j <= all.length(); j += 3) {
                WordHeap x = new WordHeap(64);
                text(x, 0, all.substring(0, i));
                text(x, 1, all.substring(i, j));
                due("join", x.join(2, 0, 1), 3);
                due("its bytes", x.tell(2, 3), j);
                for (int b = 0; b < j; b++) {
                    due("byte " + b + " of " + i + " and " + (j - i), x.byteAt(2, b), all.charAt(b));
                }
            }
        }
    }

    /** "in registers s and t (r may be one)." */
    private static void promise08_rMayBeOne() {
        for (int r = 0; r < 2; r++) {
            WordHeap x = eagerOne(new WordHeap(64));
            text(x, 0, "left");
            text(x, 1, "right");
            due("join", x.join(r, 0, 1), 3);
            for (int i = 0; i < 9; i++) {
                due("byte " + i, x.byteAt(r, i), "leftright".charAt(i));
            }
        }
        WordHeap x = new WordHeap(64);
        text(x, 0, "ha");
        due("join to itself", x.join(0, 0, 0), 2);
        due("its bytes", x.tell(0, 3), 4);
        due("byte 2", x.byteAt(0, 2), 'h');
    }

    private static void promise08_upToTheLimitAndBeyond() {
        roomEdges("join", 21, 5, x -> x.join(4, 0, 0));
        roomEdges("join with NIL", 11, 5, x -> x.join(4, 0, 5));
        roomEdges("join in one of them", 21, 5, x -> x.join(0, 0, 0));
    }

    /** The new TEXT was in no key, whatever the old ones were. */
    private static void promise08_theNewOneCanBeChanged() {
        WordHeap x = mixed();
        x.join(0, KEY_TEXT, NIL);
        throwing(null, "setByte", x, y -> y.setByte(0, 0, 'K'));
        due("the old one stays", x.byteAt(KEY_TEXT, 0), 'k');
    }

    // ---------------------------------------------------------------- promise 9: part

    private static void promise09_noSuchRegister() {
        noRegister("part in", (x, r) -> x.part(r, TEXT, 0, 1));
        noRegister("part of", (x, r) -> x.part(TEXT, r, 0, 1));
    }

    private static void promise09_neitherATextNorNil() {
        for (int s : NOT_TEXTS) {
            refused(UNSUPPORTED, "part of " + s, BoundaryTests::mixed, x -> x.part(MINUS_ONE, s, 0, 0));
        }
    }

    /** "IndexOutOfBoundsException: not 0 <= i <= j <= its bytes." */
    private static void promise09_notWithinItsBytes() {
        int[][] bad = {{-1, 0}, {-1, -1}, {-1, 9}, {1, 0}, {9, 8}, {0, 10}, {9, 10}, {10, 10}, {10, 9}, {LEAST, 0}, {0, MOST},
            {0, LEAST}, {MOST, MOST}, {LEAST, LEAST}, {LEAST, MOST}, {MOST, LEAST}, {5, -1}};
        for (int[] b : bad) {
            refused(OUTSIDE, "part " + Arrays.toString(b), BoundaryTests::mixed, x -> x.part(ZERO, TEXT, b[0], b[1]));
        }
        int[][] ofNone = {{0, 1}, {-1, 0}, {1, 1}, {1, 0}, {0, -1}};
        for (int[] b : ofNone) {
            refused(OUTSIDE, "part of NIL " + Arrays.toString(b), BoundaryTests::mixed, x -> x.part(ZERO, NIL, b[0], b[1]));
            refused(OUTSIDE, "part of no bytes " + Arrays.toString(b), BoundaryTests::mixed,
                    x -> x.part(ZERO, NO_BYTES, b[0], b[1]));
        }
        // Where a text ends within a word, what is left of the word is no byte of it.
        for (int n = 1; n <= 17; n++) {
            int bytes = n;
            Memory memory = () -> twoTexts(bytes, 0);
            refused(OUTSIDE, "part of " + n, memory, x -> x.part(2, 0, 0, bytes + 1));
            due("part of " + n, memory.made().part(2, 0, 0, bytes), 3);
        }
    }

    /** "the bytes i to j - 1", none where i is j. */
    private static void promise09_partsOfNoBytes() {
        for (int i = 0; i <= 9; i++) {
            WordHeap x = mixed();
            due("part " + i + " " + i, x.part(ZERO, TEXT, i, i), MIXED_MADE + 1);
            due("its sort", x.tell(ZERO, 0), 3);
            due("its bytes", x.tell(ZERO, 3), 0);
            due("used", x.total(0), MIXED_USED + 1);
        }
        for (int s : new int[] {NIL, NO_BYTES}) {
            WordHeap x = mixed();
            due("part of none", x.part(ZERO, s, 0, 0), MIXED_MADE + 1);
            due("its sort", x.tell(ZERO, 0), 3);
            due("its bytes", x.tell(ZERO, 3), 0);
        }
    }

    private static void promise09_everyPart() {
        String all = "abcdefgh\u00ffjklmnop\u0080rstu";
        for (int i = 0; i <= all.length(); i++) {
            for (int j = i; j <= all.length(); j++) {
                WordHeap x = new WordHeap(64);
                text(x, 0, all);
                x.part(1, 0, i, j);
                due("its bytes", x.tell(1, 3), j - i);
                due("used", x.total(0), 4 + 1 + (j - i + 7) / 8);
                for (int b = i; b < j; b++) {
                    due("byte " + (b - i) + " of " + i + " to " + j, x.byteAt(1, b - i), all.charAt(b));
                }
                // Bytes of the old one behind j are no bytes of the new one.
                text(x, 2, all.substring(i, j));
                due("compare", x.compare(1, 2), 0);
            }
        }
    }

    private static void promise09_ofTheMostBytes() {
        WordHeap x = twoTexts(32768, 0);
        due("all", x.part(2, 0, 0, 32768), 3);
        due("compare", x.compare(0, 2), 0);
        due("all but the first", x.part(2, 0, 1, 32768), 4);
        due("its last byte", x.byteAt(2, 32766), 's');
        due("the last", x.part(2, 0, 32767, 32768), 5);
        due("its byte", x.byteAt(2, 0), 's');
        throwing(OUTSIDE, "beyond", x, y -> y.part(2, 0, 32768, 32769));
        due("the old one stays", x.tell(2, 1), 5);
    }

    private static void promise09_theFirstListed() {
        refused(ILLEGAL, "register before sort", BoundaryTests::mixed, x -> x.part(16, ROW, 0, 0));
        refused(ILLEGAL, "register before bytes", BoundaryTests::mixed, x -> x.part(-1, TEXT, 1, 0));
        refused(UNSUPPORTED, "sort before bytes", BoundaryTests::mixed, x -> x.part(0, ROW, 1, 0));
        refused(UNSUPPORTED, "sort before full", BoundaryTests::mixedAndFull, x -> x.part(0, ROW, 0, 1));
        refused(OUTSIDE, "bytes before full", BoundaryTests::mixedAndFull, x -> x.part(0, TEXT, 0, 10));
        refused(OUTSIDE, "bytes before full", () -> edges(EDGES_USED), x -> x.part(4, 0, 0, 81));
    }

    private static void promise09_upToTheLimitAndBeyond() {
        roomEdges("part", 11, 5, x -> x.part(4, 0, 0, 80));
        roomEdges("part in the text's own register", 11, 5, x -> x.part(0, 0, 1, 80));
    }

    private static void promise09_theNewOneCanBeChanged() {
        WordHeap x = mixed();
        x.part(KEY_TEXT, KEY_TEXT, 0, 3);
        throwing(null, "setByte", x, y -> y.setByte(KEY_TEXT, 0, 'K'));
    }

    // ---------------------------------------------------------------- promise 10: compare

    private static void promise10_noSuchRegister() {
        noRegister("compare of", (x, r) -> x.compare(r, TEXT));
        noRegister("compare with", (x, r) -> x.compare(TEXT, r));
    }

    private static void promise10_neitherATextNorNil() {
        for (int s : NOT_TEXTS) {
            refused(UNSUPPORTED, "compare of " + s, BoundaryTests::mixed, x -> x.compare(s, TEXT));
            refused(UNSUPPORTED, "compare with " + s, BoundaryTests::mixed, x -> x.compare(TEXT, s));
            refused(UNSUPPORTED, "compare of " + s + " to itself", BoundaryTests::mixed, x -> x.compare(s, s));
            refused(UNSUPPORTED, "compare of " + s + " with NIL", BoundaryTests::mixed, x -> x.compare(s, NIL));
            refused(ILLEGAL, "register before sort", BoundaryTests::mixed, x -> x.compare(s, 16));
            refused(ILLEGAL, "register before sort", BoundaryTests::mixed, x -> x.compare(-1, s));
        }
    }

    private static int compare(String s, String t) {
        WordHeap x = new WordHeap(64);
        text(x, 0, s);
        text(x, 1, t);
        return x.compare(0, 1);
    }

    private static void rising(String less, String more) {
        due("compare of " + less.length() + " and " + more.length() + " bytes", compare(less, more), -1);
        due("compare of " + more.length() + " and " + less.length() + " bytes", compare(more, less), 1);
        due("compare to itself", compare(more, more), 0);
    }

    /** "by their bytes, 0 .. 255." */
    private static void promise10_bytesOf0To255() {
        String[] steps = {"\u0000", "\u0001", "\u007f", "\u0080", "\u00fe", "\u00ff"};
        for (int i = 0; i < steps.length; i++) {
            for (int j = i + 1; j < steps.length; j++) {
                for (String begin : new String[] {"", "a", "abcdefg", "abcdefgh", "\u00ff\u00ff\u00ff\u00ff\u00ff\u00ff\u00ff"}) {
                    rising(begin + steps[i], begin + steps[j]);
                    rising(begin + steps[i] + "\u00ff\u00ff", begin + steps[j] + "\u0000");
                }
            }
        }
    }

    /** "from the first on": an earlier byte counts, not a later one, nor how many there are. */
    private static void promise10_fromTheFirstOn() {
        for (int i = 0; i < 18; i++) {
            String begin = "xxxxxxxxxxxxxxxxxx".substring(0, i);
            rising(begin + "a" + "zzzzzzzzzz", begin + "b");
            rising(begin + "a", begin + "b" + "aaaaaaaaaa");
            rising(begin + "az", begin + "ba");
        }
    }

    /** "one that is the beginning of another is less", also where the other goes on with bytes 0. */
    private static void promise10_theBeginningOfAnotherIsLess() {
        for (int i = 0; i < 18; i++) {
            for (int j = 1; j < 10; j++) {
                String begin = "abcdefghijklmnopqr".substring(0, i);
                rising(begin, begin + "\u0000\u0000\u0000\u0000\u0000\u0000\u0000\u0000\u0000".substring(0, j));
                rising(begin, begin + "zzzzzzzzz".substring(0, j));
            }
        }
    }

    /** "two TEXTS (or NIL)", which has no bytes. */
    private static void promise10_nilHasNoBytes() {
        WordHeap x = mixed();
        due("NIL and NIL", x.compare(NIL, NIL), 0);
        due("NIL and no bytes", x.compare(NIL, NO_BYTES), 0);
        due("no bytes and NIL", x.compare(NO_BYTES, NIL), 0);
        due("NIL and some", x.compare(NIL, TEXT), -1);
        due("some and NIL", x.compare(TEXT, NIL), 1);
        x.text(0, 1);
        due("NIL and a byte 0", x.compare(NIL, 0), -1);
        due("a byte 0 and no bytes", x.compare(0, NO_BYTES), 1);
    }

    /** Nothing is joined: two TEXTS may have more than 32768 bytes together. */
    private static void promise10_ofTheMostBytes() {
        WordHeap x = twoTexts(32768, 32768);
        due("compare", x.compare(0, 1), -1);
        x.setByte(1, 32767, 's');
        due("compare", x.compare(0, 1), 0);
        x.setByte(0, 0, 128);
        due("compare", x.compare(0, 1), 1);
    }

    private static void promise10_changesNothing() {
        alike("compare", BoundaryTests::mixed, x -> x.compare(TEXT, KEY_TEXT), x -> { });
    }

    // ---------------------------------------------------------------- promise 11: byteAt

    private static void promise11_noSuchRegister() {
        noRegister("byteAt", (x, r) -> x.byteAt(r, 0));
    }

    private static void promise11_neitherATextNorNil() {
        for (int s : NOT_TEXTS) {
            refused(UNSUPPORTED, "byteAt of " + s, BoundaryTests::mixed, x -> x.byteAt(s, 0));
            refused(UNSUPPORTED, "sort before bytes", BoundaryTests::mixed, x -> x.byteAt(s, -1));
        }
    }

    /** "IndexOutOfBoundsException: there is none." */
    private static void promise11_noSuchByte() {
        for (int i : new int[] {-1, 9, 10, 15, 16, LEAST, MOST}) {
            refused(OUTSIDE, "byte " + i + " of 9", BoundaryTests::mixed, x -> x.byteAt(TEXT, i));
        }
        for (int n = 1; n <= 17; n++) {
            WordHeap x = twoTexts(n, 3);
            int bytes = n;
            due("the last of " + n, x.byteAt(0, n - 1), 's');
            throwing(OUTSIDE, "behind the last of " + n, x, y -> y.byteAt(0, bytes));
        }
        WordHeap x = twoTexts(32768, 0);
        due("the last of the most", x.byteAt(0, 32767), 's');
        throwing(OUTSIDE, "behind the last of the most", x, y -> y.byteAt(0, 32768));
    }

    /** "(or NIL, which has none)", as a TEXT of no bytes. */
    private static void promise11_nilHasNone() {
        for (int i : new int[] {0, -1, 1, LEAST, MOST}) {
            refused(OUTSIDE, "byte " + i + " of NIL", BoundaryTests::mixed, x -> x.byteAt(NIL, i));
            refused(OUTSIDE, "byte " + i + " of none", BoundaryTests::mixed, x -> x.byteAt(NO_BYTES, i));
        }
    }

    private static void promise11_bytesOf0To255() {
        WordHeap x = new WordHeap(64);
        x.text(0, 256);
        for (int i = 0; i < 128; i++) {
            x.setByte(0, i, 2 * i + 1);
        }
        for (int i = 0; i < 128; i++) {
            due("byte " + i, x.byteAt(0, i), 2 * i + 1);
        }
    }

    // ---------------------------------------------------------------- promise 12: setByte

    private static void promise12_noSuchRegister() {
        noRegister("setByte", (x, r) -> x.setByte(r, 0, 1));
    }

    private static void promise12_neitherATextNorNil() {
        for (int s : NOT_TEXTS) {
            refused(UNSUPPORTED, "setByte of " + s, BoundaryTests::mixed, x -> x.setByte(s, 0, 1));
            refused(UNSUPPORTED, "sort before bytes", BoundaryTests::mixed, x -> x.setByte(s, -1, 1));
        }
    }

    private static void promise12_noSuchByte() {
        for (int i : new int[] {-1, 9, 10, 15, 16, LEAST, MOST}) {
            refused(OUTSIDE, "byte " + i + " of 9", BoundaryTests::mixed, x -> x.setByte(TEXT, i, 255));
        }
        for (int i : new int[] {0, -1, 1, LEAST, MOST}) {
            refused(OUTSIDE, "byte " + i + " of NIL", BoundaryTests::mixed, x -> x.setByte(NIL, i, 255));
            refused(OUTSIDE, "byte " + i + " of none", BoundaryTests::mixed, x -> x.setByte(NO_BYTES, i, 255));
        }
        WordHeap x = twoTexts(32768, 0);
        x.setByte(0, 32767, 9);
        due("the last of the most", x.byteAt(0, 32767), 9);
        throwing(OUTSIDE, "behind the last of the most", x, y -> y.setByte(0, 32768, 9));
        due("the next text has no bytes", x.tell(1, 3), 0);
    }

    /** "becomes the lowest 8 bits of v." */
    private static void promise12_theLowest8Bits() {
        int[][] bytes = {{0, 0}, {255, 255}, {256, 0}, {257, 1}, {-1, 255}, {-256, 0}, {-257, 255}, {128, 128}, {-128, 128},
            {LEAST, 0}, {MOST, 255}, {0x12345678, 0x78}};
        for (int[] b : bytes) {
            for (int i = 0; i < 9; i++) {
                WordHeap x = mixed();
                x.setByte(TEXT, i, b[0]);
                for (int j = 0; j < 9; j++) {
                    due("byte " + j + " behind " + b[0] + " as " + i, x.byteAt(TEXT, j), j == i ? b[1] : 'a' + j);
                }
            }
        }
    }

    /** A map of 2 textual words and one that is not, with a value; its row has four texts in it, 2 to 5. */
    private static WordHeap keyed(int limit) {
        WordHeap x = new WordHeap(limit);
        x.map(0, 3, 1, 5);
        x.make(1, 4);
        for (int w = 0; w < 4; w++) {
            text(x, 2 + w, "text" + w);
            x.store(1, w, 2 + w);
        }
        return x;
    }

    private static void canBeChanged(String what, WordHeap x, int r, boolean want) {
        throwing(want ? null : UNSUPPORTED, what, x, y -> y.setByte(r, 0, 'T'));
        due(what + ": its byte", x.byteAt(r, 0), want ? 'T' : 't');
    }

    /** "a textual word of a key that is put in refers to a TEXT that must not be changed." */
    private static void promise12_textsOfKeysStay() {
        WordHeap x = keyed(500);
        x.put(0, 1);
        canBeChanged("textual word 0", x, 2, false);
        canBeChanged("word 1, not textual", x, 3, true);
        canBeChanged("textual word 2", x, 4, false);
        canBeChanged("the value", x, 5, true);
        Memory memory = () -> behind(() -> keyed(500), y -> y.put(0, 1));
        for (int i = 0; i < 5; i++) {
            int at = i;
            refused(UNSUPPORTED, "byte " + i + " of a key", memory, y -> y.setByte(2, at, 'x'));
        }
    }

    /** "before IndexOutOfBoundsException." */
    private static void promise12_aKeyBeforeItsBytes() {
        for (int i : new int[] {-1, 3, LEAST, MOST}) {
            refused(UNSUPPORTED, "byte " + i + " of a key", BoundaryTests::mixed, x -> x.setByte(KEY_TEXT, i, 1));
        }
        Memory noBytes = () -> {
            WordHeap x = keyed(500);
            x.text(2, 0);
            x.store(1, 0, 2);
            x.put(0, 1);
            return x;
        };
        refused(UNSUPPORTED, "byte 0 of a key of no bytes", noBytes, x -> x.setByte(2, 0, 1));
    }

    /** "also when it was ever a textual word of an entry's key, whatever became of that." */
    private static void promise12_whateverBecameOfTheEntry() {
        WordHeap x = keyed(500);
        x.put(0, 1);
        due("remove", x.remove(0, 1), 0);
        canBeChanged("its entry removed", x, 2, false);
        x.collect();
        canBeChanged("behind a collection", x, 2, false);
        x.nil(0);
        x.collect();
        canBeChanged("its map given back", x, 2, false);
        WordHeap y = keyed(5000);
        y.put(0, 1);
        y.make(6, 4);
        y.store(6, 0, 7);
        y.store(6, 2, 7);
        for (int i = 0; i < 30; i++) {
            storeNumber(y, 6, 1, i);
            y.put(0, 6);
        }
        due("entries", y.tell(0, 3), 31);
        canBeChanged("its table a new one", y, 2, false);
        WordHeap z = keyed(500);
        z.put(0, 1);
        storeNumber(z, 1, 3, 9);
        due("its value exchanged", z.put(0, 1), 0);
        canBeChanged("its value exchanged", z, 2, false);
    }

    /** An entry's key alone: not one that is looked for, exchanges a value, or is refused. */
    private static void promise12_textsOfOtherKeysCanBeChanged() {
        WordHeap x = keyed(500);
        x.get(0, 1);
        x.remove(0, 1);
        canBeChanged("looked for", x, 2, true);
        x.setByte(2, 0, 't');
        x.put(0, 1);
        text(x, 6, "text0");
        x.store(1, 0, 6);
        due("alike", x.put(0, 1), 0);
        due("alike", x.get(0, 1), 0);
        canBeChanged("alike to an entry's", x, 6, true);
        canBeChanged("the entry's", x, 2, false);
        due("not alike any more", x.get(0, 1), WordHeap.NONE);
        WordHeap y = keyed(500);
        storeNumber(y, 1, 2, 0);
        throwing(UNSUPPORTED, "put", y, z -> z.put(0, 1));
        y.store(1, 2, 4);
        y.shift(1, 1, 1);
        throwing(OUTSIDE, "put", y, z -> z.put(0, 1));
        canBeChanged("refused", y, 2, true);
        canBeChanged("refused", y, 4, true);
    }

    /** "nothing is made or changed": the key of an entry that finds the memory FULL is no entry's. */
    private static void promise12_textsOfAFullMemoryCanBeChanged() {
        WordHeap x = keyed(150);
        x.make(6, 4);
        for (int i = 0; i < 8; i++) {
            x.store(6, 0, 7);
            x.store(6, 2, 7);
            storeNumber(x, 6, 1, i);
            due("put", x.put(0, 6), i);
        }
        throwing(IS_FULL, "put", x, y -> y.put(0, 1));
        canBeChanged("refused", x, 2, true);
        canBeChanged("refused", x, 4, true);
    }

    /** "NIL" as a textual word is no TEXT: its bytes are still none. */
    private static void promise12_nilOfAKey() {
        WordHeap x = keyed(500);
        x.store(1, 0, 9);
        x.store(1, 2, 9);
        x.put(0, 1);
        throwing(OUTSIDE, "a byte of NIL", x, y -> y.setByte(9, 0, 1));
        canBeChanged("not put in", x, 2, true);
    }

    /** "Keys of MAPS stay what they were." */
    private static void promise12_keysStay() {
        WordHeap x = keyed(500);
        x.put(0, 1);
        for (int r = 2; r < 6; r++) {
            int at = r;
            thrownBy(x, y -> y.setByte(at, 1, '!'));
        }
        text(x, 6, "text0");
        text(x, 7, "text2");
        x.store(1, 0, 6);
        x.store(1, 2, 7);
        due("get", x.get(0, 1), 0);
    }

    // ---------------------------------------------------------------- promise 13: shift

    private static void promise13_noSuchRegister() {
        noRegister("shift in", (x, r) -> x.shift(r, ROW, 1));
        noRegister("shift of", (x, r) -> x.shift(ROW, r, 1));
    }

    /** "UnsupportedOperationException: s is no reference to a ROW." */
    private static void promise13_noReferenceToARow() {
        for (int s : NOT_ROWS) {
            refused(UNSUPPORTED, "shift of " + s, BoundaryTests::mixed, x -> x.shift(MINUS_ONE, s, 0));
            refused(UNSUPPORTED, "sort before place", BoundaryTests::mixed, x -> x.shift(MINUS_ONE, s, -1));
            refused(ILLEGAL, "register before sort", BoundaryTests::mixed, x -> x.shift(16, s, 0));
        }
    }

    /** "IndexOutOfBoundsException: there is no such place." */
    private static void promise13_noSuchPlace() {
        int[][] bad = {{ROW, -1}, {ROW, 5}, {ROW_MIDDLE, -3}, {ROW_MIDDLE, 3}, {ROW_END, -5}, {ROW_END, 1}, {NO_WORDS, 1},
            {NO_WORDS, -1}};
        for (int[] b : bad) {
            refused(OUTSIDE, "shift " + Arrays.toString(b), BoundaryTests::mixed, x -> x.shift(MINUS_ONE, b[0], b[1]));
        }
        for (int s : new int[] {ROW, ROW_MIDDLE, ROW_END, NO_WORDS}) {
            for (int k : new int[] {LEAST, MOST, LEAST + 1, MOST - 1, MOST - 3}) {
                refused(OUTSIDE, "shift " + s + " by " + k, BoundaryTests::mixed, x -> x.shift(s, s, k));
            }
        }
    }

    /** "A place is 0 .. the words of a ROW (also the one behind the last)"; "k (perhaps below 0) further." */
    private static void promise13_placesOf0ToTheWords() {
        for (int from = 0; from <= 4; from++) {
            for (int to = 0; to <= 4; to++) {
                WordHeap x = mixed();
                x.shift(0, ROW, from);
                x.shift(0, 0, to - from);
                due("place", x.tell(0, 2), to);
                due("its words, all of them", x.tell(0, 3), 4);
                due("its object", x.tell(0, 1), x.tell(ROW, 1));
            }
        }
        WordHeap x = new WordHeap(5000);
        x.make(0, 4096);
        x.shift(1, 0, 4096);
        due("place", x.tell(1, 2), 4096);
        due("its object", x.tell(1, 1), 1);
        throwing(OUTSIDE, "beyond", x, y -> y.shift(1, 1, 1));
        due("place stays", x.tell(1, 2), 4096);
        x.shift(2, 1, -4096);
        due("the same", x.same(0, 2), true);
        x.make(3, 0);
        x.shift(4, 3, 0);
        due("the one place of a row of no words", x.same(3, 4), true);
    }

    // ---------------------------------------------------------------- promise 14: load

    private static void promise14_noSuchRegister() {
        noRegister("load in", (x, r) -> x.load(r, ROW, 1));
        noRegister("load of", (x, r) -> x.load(ROW, r, 1));
    }

    private static void promise14_noReferenceToARow() {
        for (int s : NOT_ROWS) {
            refused(UNSUPPORTED, "load of " + s, BoundaryTests::mixed, x -> x.load(MINUS_ONE, s, 0));
            refused(UNSUPPORTED, "sort before word", BoundaryTests::mixed, x -> x.load(MINUS_ONE, s, -1));
            refused(ILLEGAL, "register before sort", BoundaryTests::mixed, x -> x.load(16, s, 0));
        }
    }

    private static final int[][] NO_WORD = {{ROW, -1}, {ROW, 4}, {ROW, 5}, {ROW_MIDDLE, -3}, {ROW_MIDDLE, 2}, {ROW_END, 0},
        {ROW_END, -5}, {NO_WORDS, 0}, {NO_WORDS, -1}, {ROW, LEAST}, {ROW, MOST}, {ROW_MIDDLE, LEAST}, {ROW_MIDDLE, MOST},
        {ROW_MIDDLE, MOST - 1}, {ROW_END, LEAST}, {ROW_END, MOST}, {ROW_END, MOST - 3}};

    /** "IndexOutOfBoundsException: there is no such word", as at the place behind the last. */
    private static void promise14_noSuchWord() {
        for (int[] b : NO_WORD) {
            refused(OUTSIDE, "load " + Arrays.toString(b), BoundaryTests::mixed, x -> x.load(b[0], b[0], b[1]));
        }
        refused(ILLEGAL, "register before word", BoundaryTests::mixed, x -> x.load(16, ROW, 4));
    }

    /** "the word of the ROW k places behind the reference in s", from any place, also below it. */
    private static void promise14_fromAnyPlace() {
        for (int place = 0; place <= 4; place++) {
            for (int word = 0; word < 4; word++) {
                WordHeap x = mixed();
                x.load(0, ROW, word);
                String want = describe(x, 0);
                x.shift(1, ROW, place);
                x.load(1, 1, word - place);
                due("word " + word + " from " + place, describe(x, 1).equals(want), true);
                due("the same", x.same(0, 1), true);
            }
        }
        WordHeap x = new WordHeap(5000);
        x.make(0, 4096);
        storeNumber(x, 0, 4095, 6);
        x.shift(1, 0, 4096);
        due("the last of the most", loadNumber(x, 1, -1), 6);
        due("the first of the most", loadNumber(x, 1, -4096), 0);
        throwing(OUTSIDE, "behind it", x, y -> y.load(2, 0, 4096));
    }

    // ---------------------------------------------------------------- promise 15: store

    private static void promise15_noSuchRegister() {
        noRegister("store of", (x, r) -> x.store(ROW, 1, r));
        noRegister("store in", (x, r) -> x.store(r, 1, ROW));
    }

    private static void promise15_noReferenceToARow() {
        for (int s : NOT_ROWS) {
            refused(UNSUPPORTED, "store in " + s, BoundaryTests::mixed, x -> x.store(s, 0, MINUS_ONE));
            refused(UNSUPPORTED, "sort before word", BoundaryTests::mixed, x -> x.store(s, -1, MINUS_ONE));
            refused(ILLEGAL, "register before sort", BoundaryTests::mixed, x -> x.store(s, 0, 16));
        }
    }

    private static void promise15_noSuchWord() {
        for (int[] b : NO_WORD) {
            refused(OUTSIDE, "store " + Arrays.toString(b), BoundaryTests::mixed, x -> x.store(b[0], b[1], MAP));
        }
        refused(ILLEGAL, "register before word", BoundaryTests::mixed, x -> x.store(ROW, 4, 16));
    }

    private static void promise15_fromAnyPlace() {
        for (int place = 0; place <= 4; place++) {
            for (int word = 0; word < 4; word++) {
                WordHeap x = mixed();
                x.shift(ROW_END, ROW, place);
                x.store(ROW_END, word - place, ROW_END);
                for (int i = 0; i < 4; i++) {
                    x.load(0, ROW, i);
                    boolean stored = x.same(0, ROW_END);
                    due("word " + i + " behind a store of word " + word, stored, i == word);
                }
            }
        }
        WordHeap x = new WordHeap(10000);
        x.make(0, 4096);
        x.make(1, 1);
        x.number(2, -1);
        x.store(0, 4095, 2);
        due("the last of the most", loadNumber(x, 0, 4095), -1);
        throwing(OUTSIDE, "behind it", x, y -> y.store(0, 4096, 2));
        due("the next row stays", loadNumber(x, 1, 0), 0);
        due("its words stay", x.tell(1, 3), 1);
    }

    /** Every sort of word is stored, and what was there does not matter. */
    private static void promise15_wordsOfEverySort() {
        for (int before = 0; before < 16; before++) {
            for (int r = 0; r < 16; r++) {
                WordHeap x = mixed();
                x.store(ROW, 0, before);
                x.store(ROW, 0, r);
                String want = describe(x, r);
                x.load(r == 0 ? 1 : 0, ROW, 0);
                due("word " + r, describe(x, r == 0 ? 1 : 0).equals(want), true);
            }
        }
    }

    // ---------------------------------------------------------------- promise 16: copy

    private static void promise16_noSuchRegister() {
        noRegister("copy to", (x, r) -> x.copy(r, ROW, 1));
        noRegister("copy from", (x, r) -> x.copy(ROW, r, 1));
    }

    /** "n words (0 .. 4096 ..)"; "(IllegalArgumentException also for n)." */
    private static void promise16_wordsOf0To4096() {
        for (int n : new int[] {-1, 4097, LEAST, MOST}) {
            refused(ILLEGAL, "copy of " + n, BoundaryTests::mixed, x -> x.copy(ROW, ENTRY, n));
            refused(ILLEGAL, "n before sort", BoundaryTests::mixed, x -> x.copy(NIL, ENTRY, n));
            refused(ILLEGAL, "n before sort", BoundaryTests::mixed, x -> x.copy(ENTRY, TEXT, n));
        }
        WordHeap x = new WordHeap(10000);
        x.make(0, 4096);
        x.make(1, 4096);
        storeNumber(x, 1, 0, 5);
        storeNumber(x, 1, 4095, 6);
        x.copy(0, 1, 4096);
        due("the first word", loadNumber(x, 0, 0), 5);
        due("the last word", loadNumber(x, 0, 4095), 6);
        throwing(OUTSIDE, "4096 words that are not there", x, y -> {
            y.shift(0, 0, 1);
            y.copy(0, 1, 4096);
        });
    }

    /** "0: none, r and s are looked at all the same." */
    private static void promise16_noWords() {
        int[] rows = {ROW, ROW_MIDDLE, ROW_END, NO_WORDS, ENTRY, TOO_SHORT};
        for (int r : rows) {
            for (int s : rows) {
                alike("copy of none", BoundaryTests::mixed, x -> x.copy(r, s, 0), x -> { });
                throwing(null, "copy of none", mixed(), x -> x.copy(r, s, 0));
            }
        }
        for (int s : NOT_ROWS) {
            refused(UNSUPPORTED, "none to " + s, BoundaryTests::mixed, x -> x.copy(s, ROW, 0));
            refused(UNSUPPORTED, "none from " + s, BoundaryTests::mixed, x -> x.copy(ROW, s, 0));
        }
    }

    private static void promise16_noReferenceToARow() {
        for (int s : NOT_ROWS) {
            refused(UNSUPPORTED, "copy to " + s, BoundaryTests::mixed, x -> x.copy(s, ROW, 1));
            refused(UNSUPPORTED, "copy from " + s, BoundaryTests::mixed, x -> x.copy(ROW, s, 1));
            refused(UNSUPPORTED, "sort before words", BoundaryTests::mixed, x -> x.copy(ROW_END, s, 1));
            refused(UNSUPPORTED, "sort before words", BoundaryTests::mixed, x -> x.copy(s, ROW_END, 1));
            refused(ILLEGAL, "register before sort", BoundaryTests::mixed, x -> x.copy(s, 16, 1));
            refused(ILLEGAL, "register before sort", BoundaryTests::mixed, x -> x.copy(-1, s, 1));
        }
    }

    /** "there is no such word": one too few on either side, and none is copied. */
    private static void promise16_notSoManyWords() {
        int[][] bad = {{ROW, ENTRY, 4}, {ENTRY, ROW, 4}, {ROW_MIDDLE, ENTRY, 3}, {ENTRY, ROW_MIDDLE, 3}, {ROW_END, ENTRY, 1},
            {ENTRY, ROW_END, 1}, {NO_WORDS, ROW, 1}, {ROW, NO_WORDS, 1}, {ROW, ROW, 5}, {ROW, ROW_MIDDLE, 3},
            {ROW_MIDDLE, ROW, 3}, {ROW, ENTRY, 4096}, {ROW_END, ROW_END, 1}};
        for (int[] b : bad) {
            refused(OUTSIDE, "copy " + Arrays.toString(b), BoundaryTests::mixed, x -> x.copy(b[0], b[1], b[2]));
        }
        for (int[] ok : new int[][] {{ROW, ENTRY, 3}, {ENTRY, ROW, 3}, {ROW_MIDDLE, ENTRY, 2}, {ROW, ROW, 4}}) {
            throwing(null, "copy " + Arrays.toString(ok), mixed(), x -> x.copy(ok[0], ok[1], ok[2]));
        }
    }

    /** "(as they were, also when both overlap)", numbers and references. */
    private static void promise16_overlap() {
        for (int to = 0; to <= 9; to++) {
            for (int from = 0; from <= 9; from++) {
                for (int n = 0; n <= 9 - Math.max(to, from); n++) {
                    WordHeap x = new WordHeap(64);
                    x.make(0, 9);
                    int[] want = new int[9];
                    for (int i = 0; i < 9; i++) {
                        want[i] = i;
                        x.number(1, i);
                        x.shift(2, 0, i);
                        x.store(0, i, i % 3 == 1 ? 2 : 1);
                    }
                    System.arraycopy(want, from, want, to, n);
                    x.shift(3, 0, to);
                    x.shift(4, 0, from);
                    x.copy(3, 4, n);
                    for (int i = 0; i < 9; i++) {
                        x.load(5, 0, i);
                        boolean refers = x.tell(5, 0) == 2;
                        due("word " + i + " is a reference", refers, want[i] % 3 == 1);
                        due("word " + i, refers ? x.tell(5, 2) : x.value(5), want[i]);
                    }
                }
            }
        }
    }

    // ---------------------------------------------------------------- promise 17: put

    private static void promise17_noSuchRegister() {
        noRegister("put into", (x, r) -> x.put(r, ENTRY));
        noRegister("put of", (x, r) -> x.put(MAP, r));
    }

    /** "UnsupportedOperationException: m is no MAP, s no reference to a ROW." */
    private static void promise17_noMapNoRow() {
        noMapNoRow("put", (x, m, s) -> x.put(m, s));
    }

    private interface MapUse {
        void on(WordHeap x, int m, int s);
    }

    private static void noMapNoRow(String what, MapUse use) {
        for (int m : NOT_MAPS) {
            refused(UNSUPPORTED, what + ", map " + m, BoundaryTests::mixed, x -> use.on(x, m, ENTRY));
            refused(UNSUPPORTED, what + ", map before words", BoundaryTests::mixed, x -> use.on(x, m, TOO_SHORT));
            refused(ILLEGAL, what + ", register before map", BoundaryTests::mixed, x -> use.on(x, m, 16));
        }
        for (int s : NOT_ROWS) {
            refused(UNSUPPORTED, what + ", row " + s, BoundaryTests::mixed, x -> use.on(x, MAP, s));
            refused(ILLEGAL, what + ", register before row", BoundaryTests::mixed, x -> use.on(x, -1, s));
        }
        refused(UNSUPPORTED, what + ", the map for both", BoundaryTests::mixed, x -> use.on(x, MAP, MAP));
        refused(UNSUPPORTED, what + ", the row for both", BoundaryTests::mixed, x -> use.on(x, ENTRY, ENTRY));
    }

    /** "or a textual word neither a TEXT nor NIL." */
    private static void promise17_textualWords() {
        textualWords("put", (x, m, s) -> x.put(m, s));
    }

    private static void textualWords(String what, MapUse use) {
        for (int r : NOT_TEXTS) {
            refused(UNSUPPORTED, what + ", textual word " + r, () -> behind(BoundaryTests::mixed, x -> x.store(ENTRY, 0, r)),
                    x -> use.on(x, MAP, ENTRY));
        }
        for (int r : new int[] {NIL, NO_BYTES, TEXT, KEY_TEXT}) {
            WordHeap x = mixed();
            x.store(ENTRY, 0, r);
            throwing(null, what + ", textual word " + r, x, y -> use.on(y, MAP, ENTRY));
        }
        // Every textual word counts, the last of four too; one that is not may be anything.
        for (int w = 0; w < 4; w++) {
            int word = w;
            for (int texts = 0; texts < 16; texts++) {
                int mask = texts;
                Memory memory = () -> {
                    WordHeap x = new WordHeap(300);
                    x.map(0, 4, 0, mask);
                    x.make(1, 4);
                    x.text(2, 3);
                    for (int i = 0; i < 4; i++) {
                        x.store(1, i, i == word ? 1 : 2);
                    }
                    return x;
                };
                if ((texts >> w & 1) == 1) {
                    refused(UNSUPPORTED, what + ", a row as word " + w + " of " + texts, memory, x -> use.on(x, 0, 1));
                } else {
                    throwing(null, what + ", a row as word " + w + " of " + texts, memory.made(), x -> use.on(x, 0, 1));
                }
            }
        }
    }

    /** "there are not so many words (looked at behind m and s, before textual ones)." */
    private static void promise17_notSoManyWords() {
        notSoManyWords("put", (x, m, s) -> x.put(m, s));
        refused(OUTSIDE, "words before textual ones", () -> behind(BoundaryTests::mixed, x -> x.shift(NUMBERS, NUMBERS, 1)),
                x -> x.put(MAP, NUMBERS));
        refused(UNSUPPORTED, "textual ones", BoundaryTests::mixed, x -> x.put(MAP, NUMBERS));
    }

    /** For every shape: a row of just so many words, from its beginning or from a place; and one too few. */
    private static void notSoManyWords(String what, MapUse use) {
        for (int k = 1; k <= 4; k++) {
            for (int v = 0; v <= 4; v++) {
                int keys = k;
                int values = v;
                for (int place = 0; place <= 2; place++) {
                    int at = place;
                    Limited memory = words -> {
                        WordHeap x = new WordHeap(500);
                        x.map(0, keys, values, 0);
                        x.make(1, keys + values);
                        x.put(0, 1);
                        x.make(1, words);
                        x.shift(1, 1, at);
                        return x;
                    };
                    throwing(null, what + " of just so many", memory.made(k + v + place), x -> use.on(x, 0, 1));
                    refused(OUTSIDE, what + " of one too few", () -> memory.made(keys + values + at - 1), x -> use.on(x, 0, 1));
                }
            }
        }
        refused(OUTSIDE, what + " behind the last", BoundaryTests::mixed, x -> use.on(x, EMPTY_MAP, ROW_END));
        refused(OUTSIDE, what + " of a row of no words", BoundaryTests::mixed, x -> use.on(x, EMPTY_MAP, NO_WORDS));
        refused(OUTSIDE, what + " one too few", BoundaryTests::mixed, x -> use.on(x, MAP, TOO_SHORT));
    }

    /** "the words from the place in s on": no other words of the row. */
    private static void promise17_fromAnyPlace() {
        for (int place = 0; place <= 6; place++) {
            WordHeap x = new WordHeap(500);
            x.map(0, 1, 1, 0);
            x.make(1, 8);
            for (int i = 0; i < 8; i++) {
                storeNumber(x, 1, i, 100 + i);
            }
            x.shift(2, 1, place);
            due("put from " + place, x.put(0, 2), 0);
            x.make(3, 2);
            x.entry(0, 0, 3);
            due("its key", loadNumber(x, 3, 0), 100 + place);
            due("its value", loadNumber(x, 3, 1), 101 + place);
            storeNumber(x, 2, 1, -4);
            due("alike from " + place, x.put(0, 2), 0);
            x.entry(0, 0, 3);
            due("its key", loadNumber(x, 3, 0), 100 + place);
            due("its value", loadNumber(x, 3, 1), -4);
            due("entries", x.tell(0, 3), 1);
            for (int other = 0; other <= 6; other++) {
                x.shift(4, 1, other);
                storeNumber(x, 1, other, 100 + other);
                due("get from " + other, x.get(0, 4), other == place ? 0 : WordHeap.NONE);
            }
            for (int other = 0; other <= 6; other++) {
                x.shift(4, 1, other);
                storeNumber(x, 1, other, 100 + other);
                due("remove from " + other, x.remove(0, 4), other == place ? 0 : WordHeap.NONE);
            }
        }
    }

    /** "ORDERS: 0, 1, 2, .. as they are put in": never one again, whatever was removed. */
    private static void promise17_ordersRise() {
        WordHeap x = new WordHeap(5000);
        x.map(0, 1, 0, 0);
        x.make(1, 1);
        for (int i = 0; i < 40; i++) {
            due("put", putNumbers(x, 0, 1, 7), i);
            due("remove", x.remove(0, 1), i);
            due("entries", x.tell(0, 3), 0);
            due("capacity", x.tell(0, 4), 8);
        }
        due("put", x.put(0, 1), 40);
        due("next", x.next(0, 0), 40);
    }

    /** "that one's value is exchanged (its key, with the TEXTS it refers to, and order stay; it takes nothing)." */
    private static void promise17_oneAlikeIsExchanged() {
        WordHeap x = mixed();
        int used = x.total(0);
        due("put", x.put(MAP, ENTRY), 0);
        due("entries", x.tell(MAP, 3), 1);
        due("used", x.total(0), used);
        x.make(0, 3);
        x.entry(MAP, 0, 0);
        x.load(1, 0, 0);
        due("its text stays", x.same(1, KEY_TEXT), true);
        x.load(1, 0, 2);
        due("its value", x.value(1), 77);
        due("the next order", putNumberTwo(x), 2);
    }

    private static int putNumberTwo(WordHeap x) {
        storeNumber(x, ENTRY, 1, 2);
        return x.put(MAP, ENTRY);
    }

    /** What is exchanged takes no slot: as many new ones go in as without it. */
    private static void promise17_exchangedOnesAreNotCounted() {
        WordHeap x = new WordHeap(5000);
        x.map(0, 1, 1, 0);
        x.make(1, 2);
        for (int i = 0; i < 8; i++) {
            for (int j = 0; j < 5; j++) {
                due("put", putNumbers(x, 0, 1, i, j), i);
            }
        }
        due("used", x.total(0), 47 + 3);
        due("capacity", x.tell(0, 4), 8);
        due("the ninth", putNumbers(x, 0, 1, 8, 0), 8);
        due("capacity", x.tell(0, 4), 16);
        due("its last value", getNumber(x, 0, 1, 3), 3);
        due("its last value", loadNumber(x, 1, 1), 4);
    }

    /** Refused ones take no slot and no order either. */
    private static void promise17_refusedOnesAreNotCounted() {
        WordHeap x = new WordHeap(5000);
        x.map(0, 1, 1, 1);
        x.make(1, 2);
        x.make(2, 2);
        x.shift(3, 1, 1);
        for (int i = 0; i < 8; i++) {
            throwing(UNSUPPORTED, "put", x, y -> y.put(0, 2));
            throwing(OUTSIDE, "put", x, y -> y.put(0, 3));
            x.text(4, i);
            x.store(1, 0, 4);
            due("put", x.put(0, 1), i);
            due("capacity", x.tell(0, 4), 8);
        }
    }

    private static WordHeap numbered(int entries) {
        WordHeap x = new WordHeap(20000);
        x.map(0, 1, 1, 0);
        x.make(1, 2);
        for (int i = 0; i < entries; i++) {
            putNumbers(x, 0, 1, i, 10 * i);
        }
        return x;
    }

    /** "and c were put into this table already": the ninth, not the eighth. */
    private static void promise17_aNewTableWithTheNinth() {
        WordHeap x = numbered(8);
        due("capacity", x.tell(0, 4), 8);
        due("used", x.total(0), 50);
        due("the ninth", putNumbers(x, 0, 1, 8, 0), 8);
        due("capacity", x.tell(0, 4), 16);
        due("used", x.total(0), 50 + 1 + 16 * 5);
        due("the old table", x.collect(), 41);
        for (int i = 9; i < 16; i++) {
            due("put", putNumbers(x, 0, 1, i, 0), i);
            due("capacity", x.tell(0, 4), 16);
        }
        due("the 17th", putNumbers(x, 0, 1, 16, 0), 16);
        due("capacity", x.tell(0, 4), 32);
        due("used", x.total(0), 3 + 6 + 1 + 16 * 5 + 1 + 32 * 5);
    }

    /** "when 4 * entries (without this one) are 3 * c or more": 6 of 8, 12 of 16, 24 of 32, not one less. */
    private static void promise17_capacityByEntries() {
        int[][] cases = {{8, 8, 16}, {8, 7, 16}, {8, 6, 16}, {8, 5, 8}, {8, 4, 8}, {8, 1, 8}, {8, 0, 8}, {16, 16, 32},
            {16, 12, 32}, {16, 11, 16}, {16, 0, 16}, {32, 24, 64}, {32, 23, 32}};
        for (int[] c : cases) {
            WordHeap x = numbered(c[0]);
            for (int i = 0; i < c[0] - c[1]; i++) {
                due("remove", removeNumber(x, 0, 1, i), i);
            }
            due("entries", x.tell(0, 3), c[1]);
            due("capacity", x.tell(0, 4), c[0]);
            int used = x.total(0);
            due("put", putNumbers(x, 0, 1, 1000, 7), c[0]);
            due("capacity with " + c[1] + " of " + c[0], x.tell(0, 4), c[2]);
            due("used", x.total(0), used + 1 + 5 * c[2]);
            due("entries", x.tell(0, 3), c[1] + 1);
            for (int i = c[0] - c[1]; i < c[0]; i++) {
                due("get", getNumber(x, 0, 1, i), i);
                due("value", loadNumber(x, 1, 1), 10 * i);
            }
            due("get", getNumber(x, 0, 1, 1000), c[0]);
        }
    }

    /** "those removed and those that came there from an old table counted." */
    private static void promise17_whatIsCounted() {
        WordHeap x = numbered(8);
        for (int i = 0; i < 5; i++) {
            removeNumber(x, 0, 1, i);
        }
        // 3 entries come to a new table of 8; with this one there are 4, so that 4 more go in.
        putNumbers(x, 0, 1, 100, 0);
        int used = x.total(0);
        for (int i = 1; i <= 4; i++) {
            putNumbers(x, 0, 1, 100 + i, 0);
            due("used", x.total(0), used);
        }
        due("entries", x.tell(0, 3), 8);
        putNumbers(x, 0, 1, 105, 0);
        due("a new table", x.total(0), used + 1 + 16 * 5);
        // Those removed in this table count: it is full behind 7 more, though none of them is there.
        used = x.total(0);
        for (int i = 0; i < 7; i++) {
            putNumbers(x, 0, 1, 200 + i, 0);
            removeNumber(x, 0, 1, 200 + i);
            due("used", x.total(0), used);
        }
        due("entries", x.tell(0, 3), 9);
        putNumbers(x, 0, 1, 300, 0);
        due("a new table of as many", x.tell(0, 4), 16);
        due("used", x.total(0), used + 1 + 16 * 5);
    }

    /** A key removed and put in again is a new one, also where the table is full. */
    private static void promise17_aRemovedKeyIsNew() {
        WordHeap x = numbered(8);
        due("remove", removeNumber(x, 0, 1, 7), 7);
        due("put", putNumbers(x, 0, 1, 7, 1), 8);
        due("capacity", x.tell(0, 4), 16);
        due("entries", x.tell(0, 3), 8);
        due("next", x.next(0, 7), 8);
    }

    /** "IllegalStateException: FULL (only when a new table is to be made: with a new key, c of them put in already)." */
    private static void promise17_fullOnlyWithANewTable() {
        WordHeap x = new WordHeap(64);
        x.make(1, 2);
        x.map(0, 1, 1, 0);
        x.make(2, 64 - x.total(0) - 1);
        due("used", x.total(0), 64);
        for (int i = 0; i < 8; i++) {
            due("put", putNumbers(x, 0, 1, i, i), i);
        }
        due("collections", x.total(3), 0);
        for (int i = 0; i < 8; i++) {
            due("exchange", putNumbers(x, 0, 1, i, -i), i);
        }
        due("collections", x.total(3), 0);
        throwing(IS_FULL, "the ninth", x, y -> putNumbers(y, 0, 1, 8, 8));
        due("collections", x.total(3), 1);
        due("entries", x.tell(0, 3), 8);
        due("exchange", putNumbers(x, 0, 1, 7, 70), 7);
        due("collections", x.total(3), 1);
    }

    private static void promise17_upToTheLimitAndBeyond() {
        roomEdges("put", 81, 8, x -> x.put(2, 3));
        // A table of as many slots takes less.
        Limited removed = limit -> {
            WordHeap x = edges(limit);
            for (int i = 0; i < 3; i++) {
                removeNumber(x, 2, 3, i);
            }
            storeNumber(x, 3, 0, 8);
            return x;
        };
        due("put", removed.made(EDGES_USED + 41 - EDGES_LOST).put(2, 3), 8);
        full("put", () -> removed.made(EDGES_USED + 41 - EDGES_LOST - 1), x -> x.put(2, 3));
    }

    /** Other exceptions are listed before FULL. */
    private static void promise17_theFirstListed() {
        Memory textual = () -> {
            WordHeap x = new WordHeap(70);
            x.make(1, 2);
            x.map(0, 1, 1, 1);
            for (int i = 0; i < 9; i++) {
                x.text(2, Math.min(i, 1));
                if (i > 0) {
                    x.setByte(2, 0, i);
                }
                x.store(1, 0, 2);
                if (i < 8) {
                    x.put(0, 1);
                }
            }
            return x;
        };
        full("the ninth", textual, x -> x.put(0, 1));
        refused(UNSUPPORTED, "a number as text", () -> behind(textual, x -> storeNumber(x, 1, 0, 1)), x -> x.put(0, 1));
        refused(OUTSIDE, "too few", () -> behind(textual, x -> x.shift(1, 1, 1)), x -> x.put(0, 1));
        refused(OUTSIDE, "too few", () -> behind(() -> edges(EDGES_USED), x -> x.shift(3, 3, 1)), x -> x.put(2, 3));
        refused(UNSUPPORTED, "no row", () -> edges(EDGES_USED), x -> x.put(2, 0));
        refused(ILLEGAL, "no register", () -> edges(EDGES_USED), x -> x.put(2, 16));
    }

    /** "or always when the memory is EAGER": with a new table, and only with one. */
    private static void promise17_eager() {
        WordHeap x = eagerOne(new WordHeap(5000));
        x.map(0, 1, 1, 0);
        x.make(1, 2);
        int collections = x.total(3);
        for (int i = 0; i < 8; i++) {
            putNumbers(x, 0, 1, i, 0);
            putNumbers(x, 0, 1, i, 1);
        }
        due("none without a table", x.total(3), collections);
        due("put", putNumbers(x, 0, 1, 8, 80), 8);
        due("one with a table", x.total(3), collections + 1);
        // The old table was still the map's when it came.
        due("given back", x.total(4), 0);
        due("used", x.total(0), 6 + 3 + 41 + 81);
        due("get", getNumber(x, 0, 1, 8), 8);
        due("value", loadNumber(x, 1, 1), 80);
    }

    /** "two are ALIKE when their bytes are (NIL: none)." */
    private static void promise17_textualWordsAreAlikeByBytes() {
        String[] bytes = {"", "\u0000", "\u0000\u0000", "a", "a\u0000", "abcdefgh", "abcdefgh\u0000", "abcdefghi", "abcdefgi",
            "\u00ff", "\u007f"};
        for (int i = 0; i < bytes.length; i++) {
            for (int j = 0; j < bytes.length; j++) {
                WordHeap x = new WordHeap(300);
                x.map(0, 1, 0, 1);
                x.make(1, 1);
                text(x, 2, bytes[i]);
                x.store(1, 0, 2);
                due("put", x.put(0, 1), 0);
                text(x, 3, bytes[j]);
                x.store(1, 0, 3);
                due("put of " + j + " behind " + i, x.put(0, 1), i == j ? 0 : 1);
            }
        }
        for (int first = 0; first < 2; first++) {
            WordHeap x = new WordHeap(300);
            x.map(0, 1, 0, 1);
            x.make(1, 1);
            x.text(2, 0);
            x.store(1, 0, 2 + first);
            due("put", x.put(0, 1), 0);
            x.store(1, 0, 3 - first);
            due("NIL and no bytes", x.put(0, 1), 0);
            x.entry(0, 0, 1);
            x.load(4, 1, 0);
            due("the first stays", x.same(4, 2 + first), true);
            x.text(5, 1);
            x.store(1, 0, 5);
            due("a byte 0 is some", x.put(0, 1), 1);
        }
    }

    /** "other words are alike when they are the same": TEXTS by what they refer to, places, numbers, NIL. */
    private static void promise17_otherWordsAreAlikeWhenTheSame() {
        WordHeap x = new WordHeap(2000);
        x.map(0, 1, 0, 0);
        x.make(1, 1);
        x.make(2, 3);
        x.shift(3, 2, 1);
        x.shift(4, 2, 3);
        x.make(5, 3);
        text(x, 6, "a");
        text(x, 7, "a");
        x.map(8, 1, 0, 0);
        x.number(9, 0);
        x.number(10, Long.MIN_VALUE);
        x.number(11, 1L << 13);
        x.nil(12);
        for (int i = 0; i < 13; i++) {
            x.store(1, 0, i);
            due("put of " + i, x.put(0, 1), i);
        }
        x.shift(13, 4, -2);
        x.store(1, 0, 13);
        due("the same place again", x.put(0, 1), 3);
        x.collect();
        for (int i = 0; i < 13; i++) {
            x.store(1, 0, i);
            due("put again of " + i, x.put(0, 1), i);
        }
        due("entries", x.tell(0, 3), 13);
    }

    /** "Two keys are alike when all their words are." */
    private static void promise17_allWordsOfAKey() {
        for (int k = 1; k <= 4; k++) {
            WordHeap x = new WordHeap(2000);
            x.map(0, k, 1, 0);
            x.make(1, k + 1);
            due("put", x.put(0, 1), 0);
            for (int w = 0; w < k; w++) {
                storeNumber(x, 1, w, 1);
                due("another word " + w + " of " + k, x.put(0, 1), w + 1);
                storeNumber(x, 1, w, 0);
            }
            storeNumber(x, 1, k, 1);
            due("another value", x.put(0, 1), 0);
            due("entries", x.tell(0, 3), k + 1);
        }
    }

    /** A MAP may be a key or a value of its own, and so may the row be. */
    private static void promise17_ofItself() {
        WordHeap x = new WordHeap(300);
        x.map(0, 1, 1, 0);
        x.make(1, 2);
        x.store(1, 0, 0);
        x.store(1, 1, 1);
        due("put", x.put(0, 1), 0);
        x.nil(1);
        due("collect", x.collect(), 0);
        x.make(2, 2);
        x.store(2, 0, 0);
        due("get", x.get(0, 2), 0);
        x.load(3, 2, 1);
        due("the row", x.tell(3, 1), 2);
        for (int r = 0; r < 4; r++) {
            x.nil(r);
        }
        due("all of it", x.collect(), 47 + 3 + 3);
    }

    // ---------------------------------------------------------------- promise 18: get

    private static void promise18_noSuchRegister() {
        noRegister("get from", (x, r) -> x.get(r, ENTRY));
        noRegister("get of", (x, r) -> x.get(MAP, r));
    }

    private static void promise18_noMapNoRow() {
        noMapNoRow("get", (x, m, s) -> x.get(m, s));
    }

    private static void promise18_textualWords() {
        textualWords("get", (x, m, s) -> x.get(m, s));
    }

    /** "(there must be room for key and value)", before textual words are looked at. */
    private static void promise18_notSoManyWords() {
        notSoManyWords("get", (x, m, s) -> x.get(m, s));
        refused(OUTSIDE, "words before textual ones", () -> behind(BoundaryTests::mixed, x -> x.shift(NUMBERS, NUMBERS, 1)),
                x -> x.get(MAP, NUMBERS));
    }

    /** "NONE, and they stay, when there is none." */
    private static void promise18_none() {
        due("NONE", WordHeap.NONE, -1);
        due("get of none", mixed().get(EMPTY_MAP, ENTRY), WordHeap.NONE);
        alike("get of none", BoundaryTests::mixed, x -> x.get(EMPTY_MAP, ENTRY), x -> { });
        Memory other = () -> behind(BoundaryTests::mixed, x -> storeNumber(x, ENTRY, 1, 2));
        due("get of another", other.made().get(MAP, ENTRY), WordHeap.NONE);
        alike("get of another", other, x -> x.get(MAP, ENTRY), x -> { });
        Memory gone = () -> behind(BoundaryTests::mixed, x -> {
            text(x, 0, "gone");
            x.store(ENTRY, 0, 0);
        });
        due("get of one removed", gone.made().get(MAP, ENTRY), WordHeap.NONE);
        alike("get of one removed", gone, x -> x.get(MAP, ENTRY), x -> { });
    }

    /** "the words behind these become its value": these alone, and no other. */
    private static void promise18_theValueAlone() {
        for (int k = 1; k <= 4; k++) {
            for (int v = 0; v <= 4; v++) {
                WordHeap x = new WordHeap(500);
                x.map(0, k, v, 0);
                x.make(1, k + v + 2);
                x.shift(2, 1, 1);
                for (int i = 0; i < k + v; i++) {
                    storeNumber(x, 2, i, i < k ? i : 50 + i);
                }
                due("put", x.put(0, 2), 0);
                for (int i = 0; i < k + v + 2; i++) {
                    storeNumber(x, 1, i, i >= 1 && i <= k ? i - 1 : -5);
                }
                due("get", x.get(0, 2), 0);
                due("the word before", loadNumber(x, 1, 0), -5);
                for (int i = 0; i < k + v; i++) {
                    due("word " + i + " of " + k + " and " + v, loadNumber(x, 2, i), i < k ? i : 50 + i);
                }
                due("the word behind", loadNumber(x, 2, k + v), -5);
            }
        }
    }

    /** The key that was looked for stays, though the entry's refers to another TEXT. */
    private static void promise18_theKeyStays() {
        WordHeap x = mixed();
        x.load(0, ENTRY, 0);
        due("get", x.get(MAP, ENTRY), 0);
        x.load(1, ENTRY, 0);
        due("its text", x.same(0, 1), true);
        due("not the entry's", x.same(1, KEY_TEXT), false);
        due("its value", loadNumber(x, ENTRY, 2), 90);
    }

    /** A memory that is full, or eager, does not matter: nothing is made. */
    private static void promise18_takesNothing() {
        WordHeap x = eagerOne(mixedAndFull());
        due("get", x.get(MAP, ENTRY), 0);
        due("used", x.total(0), MIXED_USED);
        due("collections", x.total(3), 0);
    }

    // ---------------------------------------------------------------- promise 19: remove

    private static void promise19_noSuchRegister() {
        noRegister("remove from", (x, r) -> x.remove(r, ENTRY));
        noRegister("remove of", (x, r) -> x.remove(MAP, r));
    }

    private static void promise19_noMapNoRow() {
        noMapNoRow("remove", (x, m, s) -> x.remove(m, s));
    }

    private static void promise19_textualWords() {
        textualWords("remove", (x, m, s) -> x.remove(m, s));
    }

    /** "Exceptions as for get", for which there must be room for key and value. */
    private static void promise19_notSoManyWords() {
        notSoManyWords("remove", (x, m, s) -> x.remove(m, s));
        refused(OUTSIDE, "words before textual ones", () -> behind(BoundaryTests::mixed, x -> x.shift(NUMBERS, NUMBERS, 1)),
                x -> x.remove(MAP, NUMBERS));
    }

    /** "its order, or NONE." */
    private static void promise19_none() {
        due("remove from none", mixed().remove(EMPTY_MAP, ENTRY), WordHeap.NONE);
        alike("remove from none", BoundaryTests::mixed, x -> x.remove(EMPTY_MAP, ENTRY), x -> { });
        Memory removed = () -> behind(BoundaryTests::mixed, x -> x.remove(MAP, ENTRY));
        due("remove", mixed().remove(MAP, ENTRY), 0);
        due("remove again", removed.made().remove(MAP, ENTRY), WordHeap.NONE);
        alike("remove again", removed, x -> x.remove(MAP, ENTRY), x -> { });
    }

    /** The words in s stay; the entry, and no other, is gone, the first as the last. */
    private static void promise19_oneAlone() {
        for (int gone = 0; gone < 8; gone++) {
            WordHeap x = numbered(8);
            storeNumber(x, 1, 1, -3);
            due("remove", removeNumber(x, 0, 1, gone), gone);
            due("the key stays", loadNumber(x, 1, 0), gone);
            due("the value stays", loadNumber(x, 1, 1), -3);
            due("entries", x.tell(0, 3), 7);
            due("capacity", x.tell(0, 4), 8);
            due("used", x.total(0), 50);
            for (int i = 0; i < 8; i++) {
                due("get of " + i, getNumber(x, 0, 1, i), i == gone ? WordHeap.NONE : i);
            }
            due("next", x.next(0, gone), gone < 7 ? gone + 1 : WordHeap.NONE);
        }
    }

    /** "keys and values of MAPS" reach; those of an entry that was removed do not. */
    private static void promise19_itsWordsDoNotReach() {
        WordHeap x = new WordHeap(500);
        x.map(0, 2, 2, 1);
        x.make(1, 4);
        x.text(2, 8);
        x.setByte(2, 0, 1);
        x.make(3, 4);
        x.make(4, 6);
        x.map(5, 1, 0, 0);
        for (int i = 0; i < 4; i++) {
            x.store(1, i, 2 + i);
        }
        x.put(0, 1);
        x.make(6, 4);
        x.copy(6, 1, 4);
        for (int r = 1; r < 6; r++) {
            x.nil(r);
        }
        x.nil(6);
        due("the rows alone", x.collect(), 10);
        x.make(1, 4);
        x.entry(0, 0, 1);
        due("remove", x.remove(0, 1), 0);
        due("the row still reaches them", x.collect(), 0);
        x.nil(1);
        due("nothing does", x.collect(), 5 + 2 + 5 + 7 + 39);
        due("the map stays", x.total(0), 6 + 1 + 8 * 7);
    }

    // ---------------------------------------------------------------- promise 20: next

    private static void promise20_noSuchRegister() {
        noRegister("next", (x, r) -> x.next(r, 0));
    }

    /** "UnsupportedOperationException: m is no MAP." */
    private static void promise20_noMap() {
        for (int m : NOT_MAPS) {
            for (int from : new int[] {0, -1, LEAST, MOST}) {
                refused(UNSUPPORTED, "next of " + m, BoundaryTests::mixed, x -> x.next(m, from));
            }
        }
    }

    /** "The least order, from on (any int)." */
    private static void promise20_fromAnyInt() {
        WordHeap x = numbered(6);
        removeNumber(x, 0, 1, 0);
        removeNumber(x, 0, 1, 3);
        removeNumber(x, 0, 1, 5);
        int[][] cases = {{LEAST, 1}, {-1, 1}, {0, 1}, {1, 1}, {2, 2}, {3, 4}, {4, 4}, {5, -1}, {6, -1}, {MOST, -1}, {MOST - 1, -1},
            {LEAST + 1, 1}};
        for (int[] c : cases) {
            due("next from " + c[0], x.next(0, c[0]), c[1]);
        }
    }

    /** "NONE when there is none." */
    private static void promise20_none() {
        for (int from : new int[] {LEAST, -1, 0, 1, MOST}) {
            due("next of no entries", mixed().next(EMPTY_MAP, from), WordHeap.NONE);
            WordHeap x = numbered(3);
            for (int i = 0; i < 3; i++) {
                removeNumber(x, 0, 1, i);
            }
            due("next of entries removed", x.next(0, from), WordHeap.NONE);
        }
        alike("next", BoundaryTests::mixed, x -> x.next(MAP, 0), x -> { });
    }

    /** Orders are kept, and kept in order, through new tables. */
    private static void promise20_throughNewTables() {
        WordHeap x = numbered(8);
        for (int i = 0; i < 8; i += 2) {
            removeNumber(x, 0, 1, i);
        }
        for (int i = 8; i < 20; i++) {
            due("put", putNumbers(x, 0, 1, i, 0), i);
        }
        int from = LEAST;
        for (int i = 1; i < 20; i += i < 7 ? 2 : 1) {
            due("next from " + from, x.next(0, from), i);
            from = i + 1;
        }
        due("behind the last", x.next(0, from), WordHeap.NONE);
    }

    // ---------------------------------------------------------------- promise 21: entry

    private static void promise21_noSuchRegister() {
        noRegister("entry of", (x, r) -> x.entry(r, 0, ENTRY));
        noRegister("entry to", (x, r) -> x.entry(MAP, 0, r));
    }

    private static void promise21_noMapNoRow() {
        noMapNoRow("entry", (x, m, s) -> x.entry(m, 0, s));
    }

    private static void promise21_notSoManyWords() {
        notSoManyWords("entry", (x, m, s) -> x.entry(m, 0, s));
    }

    /** "NoSuchElementException: there is no such entry." */
    private static void promise21_noSuchEntry() {
        for (int order : new int[] {-1, 1, 2, 3, 7, 8, LEAST, MOST, LEAST + 1, MOST - 1}) {
            refused(NO_ENTRY, "entry " + order, BoundaryTests::mixed, x -> x.entry(MAP, order, ENTRY));
        }
        for (int order : new int[] {-1, 0, 1, LEAST, MOST}) {
            refused(NO_ENTRY, "entry " + order + " of none", BoundaryTests::mixed, x -> x.entry(EMPTY_MAP, order, ENTRY));
        }
        Memory full = () -> numbered(8);
        refused(NO_ENTRY, "entry 8 of a full table", full, x -> x.entry(0, 8, 1));
        throwing(null, "entry 7 of a full table", full.made(), x -> x.entry(0, 7, 1));
    }

    /** "Other exceptions as for get, before that." */
    private static void promise21_otherExceptionsBefore() {
        refused(OUTSIDE, "words before no entry", BoundaryTests::mixed, x -> x.entry(MAP, 9, TOO_SHORT));
        refused(UNSUPPORTED, "row before no entry", BoundaryTests::mixed, x -> x.entry(MAP, 9, NIL));
        refused(UNSUPPORTED, "map before no entry", BoundaryTests::mixed, x -> x.entry(NIL, 9, ENTRY));
        refused(ILLEGAL, "register before no entry", BoundaryTests::mixed, x -> x.entry(MAP, 9, 16));
        refused(ILLEGAL, "register before no entry", BoundaryTests::mixed, x -> x.entry(-1, 9, ENTRY));
    }

    /** "(but what stands in those words does not matter)." */
    private static void promise21_whatStandsThereDoesNotMatter() {
        for (int r = 0; r < 16; r++) {
            WordHeap x = mixed();
            for (int i = 0; i < 3; i++) {
                x.store(NUMBERS, i, r);
            }
            x.entry(MAP, 0, NUMBERS);
            x.load(0, NUMBERS, 0);
            due("its text", x.same(0, KEY_TEXT), true);
            due("its number", loadNumber(x, NUMBERS, 1), 1);
            due("its value", loadNumber(x, NUMBERS, 2), 90);
        }
        refused(NO_ENTRY, "no text, and no entry", BoundaryTests::mixed, x -> x.entry(MAP, 1, NUMBERS));
    }

    /** "The key and value .. become the words from the place in s on": these, and no other. */
    private static void promise21_keyAndValueAlone() {
        for (int k = 1; k <= 4; k++) {
            for (int v = 0; v <= 4; v++) {
                WordHeap x = new WordHeap(500);
                x.map(0, k, v, 0);
                x.make(1, k + v);
                for (int i = 0; i < k + v; i++) {
                    storeNumber(x, 1, i, 30 + i);
                }
                x.put(0, 1);
                x.make(2, k + v + 2);
                x.shift(3, 2, 1);
                storeNumber(x, 2, 0, -5);
                storeNumber(x, 2, k + v + 1, -6);
                x.entry(0, 0, 3);
                due("the word before", loadNumber(x, 2, 0), -5);
                for (int i = 0; i < k + v; i++) {
                    due("word " + i + " of " + k + " and " + v, loadNumber(x, 3, i), 30 + i);
                }
                due("the word behind", loadNumber(x, 2, k + v + 1), -6);
            }
        }
    }

    // ---------------------------------------------------------------- promise 22: collect

    /** "how many words were given back": none where all is reached, or nothing is there. */
    private static void promise22_nothingToGiveBack() {
        WordHeap x = new WordHeap(64);
        due("of nothing", x.collect(), 0);
        x.make(0, 63);
        due("of all reached", x.collect(), 0);
        due("collections", x.total(3), 2);
        due("used", x.total(0), 64);
    }

    private static void promise22_allGivenBack() {
        WordHeap x = new WordHeap(64);
        x.make(0, 63);
        x.nil(0);
        due("all", x.collect(), 64);
        due("again", x.collect(), 0);
        due("used", x.total(0), 0);
        due("given back", x.total(4), 64);
        due("as many words again", x.make(0, 63), 2);
        due("no other collection", x.total(3), 2);
    }

    /** "a reference reaches the whole object", also from the place behind its last word. */
    private static void promise22_anyPlaceReachesAll() {
        for (int place = 0; place <= 3; place++) {
            WordHeap x = new WordHeap(64);
            x.make(0, 3);
            x.text(1, 8);
            x.setByte(1, 7, 9);
            x.store(0, 2, 1);
            x.make(2, 0);
            x.store(0, 0, 2);
            x.shift(3, 0, place);
            for (int r = 0; r < 3; r++) {
                x.nil(r);
            }
            due("collect", x.collect(), 0);
            x.load(4, 3, 2 - place);
            due("its text", x.byteAt(4, 7), 9);
            x.load(4, 3, -place);
            due("its row", x.tell(4, 1), 3);
        }
    }

    /** "can't be REACHED": a ring of objects that only reach one another is given back. */
    private static void promise22_rings() {
        WordHeap x = new WordHeap(500);
        x.make(0, 1);
        x.store(0, 0, 0);
        x.nil(0);
        due("a row that is its own word", x.collect(), 2);
        x.map(0, 1, 1, 0);
        x.make(1, 2);
        x.store(1, 0, 1);
        x.store(1, 1, 0);
        x.put(0, 1);
        x.nil(0);
        due("the row reaches the map", x.collect(), 0);
        x.nil(1);
        due("a map and a row", x.collect(), 47 + 3);
    }

    /** "(.. a MAP its table)", and the old one not: it is given back with the next collection. */
    private static void promise22_oldTables() {
        WordHeap x = numbered(8);
        due("collect", x.collect(), 0);
        putNumbers(x, 0, 1, 8, 0);
        due("the old table", x.collect(), 41);
        due("again", x.collect(), 0);
        due("get", getNumber(x, 0, 1, 8), 8);
        due("used", x.total(0), 6 + 3 + 81);
    }

    /** An old value does not reach any more, nor a key that was only alike. */
    private static void promise22_exchangedValues() {
        WordHeap x = new WordHeap(500);
        x.map(0, 1, 1, 1);
        x.make(1, 2);
        text(x, 2, "k");
        x.make(3, 3);
        x.store(1, 0, 2);
        x.store(1, 1, 3);
        x.put(0, 1);
        text(x, 4, "k");
        x.make(5, 5);
        x.store(1, 0, 4);
        x.store(1, 1, 5);
        x.put(0, 1);
        for (int r = 1; r < 6; r++) {
            x.nil(r);
        }
        due("the row, the old value and the other text", x.collect(), 3 + 4 + 2);
        x.make(1, 2);
        x.entry(0, 0, 1);
        x.load(2, 1, 0);
        due("its text", x.tell(2, 1), 3);
        x.load(2, 1, 1);
        due("its value", x.tell(2, 1), 6);
    }

    /** What is reached through many objects, one behind the other. */
    private static void promise22_longChains() {
        WordHeap x = new WordHeap(500);
        for (int i = 0; i < 120; i++) {
            x.make(1, 1);
            x.store(1, 0, 0);
            x.move(0, 1);
        }
        x.nil(1);
        due("all reached", x.collect(), 0);
        for (int i = 0; i < 60; i++) {
            x.load(0, 0, 0);
        }
        due("half of it", x.collect(), 120);
        due("number", x.tell(0, 1), 60);
    }

    /** "What happens behind a collection is as if there had been none." */
    private static void promise22_asIfThereHadBeenNone() {
        same("collect", lookAtWords(BoundaryTests::mixed, x -> x.collect()), lookAtWords(BoundaryTests::mixed, x -> { }));
        same("collect twice", lookAtWords(BoundaryTests::mixed, x -> {
            x.collect();
            x.collect();
        }), lookAtWords(BoundaryTests::mixed, x -> { }));
        WordHeap x = mixed();
        WordHeap y = mixed();
        for (int i = 0; i < 40; i++) {
            y.collect();
            due("make", y.make(0, i % 5), x.make(0, i % 5));
            storeNumber(x, ENTRY, 1, i);
            storeNumber(y, ENTRY, 1, i);
            due("put", y.put(MAP, ENTRY), x.put(MAP, ENTRY));
            storeNumber(x, ENTRY, 1, i / 2);
            storeNumber(y, ENTRY, 1, i / 2);
            due("remove", y.remove(MAP, ENTRY), x.remove(MAP, ENTRY));
            due("next", y.next(MAP, 0), x.next(MAP, 0));
            due("entries", y.tell(MAP, 3), x.tell(MAP, 3));
            due("capacity", y.tell(MAP, 4), x.tell(MAP, 4));
        }
    }

    /** Of five objects of every sort, one behind the other, any are given back and the others stay what they are. */
    private static void promise22_movedTogether() {
        int[] takes = {3, 3, 47, 1, 1};
        for (int lost = 0; lost < 32; lost++) {
            int mask = lost;
            Memory kept = () -> fiveObjects(mask);
            WordHeap x = kept.made();
            int given = 0;
            for (int i = 0; i < 5; i++) {
                given += (lost >> i & 1) == 1 ? takes[i] : 0;
            }
            due("given back of " + lost, x.collect(), given);
            due("used", x.total(0), 55 - given);
            same("collect of " + lost, lookAtWords(kept, y -> y.collect()), lookAtWords(kept, y -> { }));
        }
    }

    /** A row, a text, a map, a row of no words and a text of no bytes, without those in the mask. */
    private static WordHeap fiveObjects(int lost) {
        WordHeap x = new WordHeap(200);
        x.make(0, 2);
        text(x, 1, "moved text");
        x.map(2, 1, 1, 0);
        x.make(3, 0);
        x.text(4, 0);
        storeNumber(x, 0, 0, 4);
        storeNumber(x, 0, 1, 5);
        x.put(2, 0);
        for (int i = 0; i < 5; i++) {
            if ((lost >> i & 1) == 1) {
                x.nil(i);
            }
        }
        return x;
    }

    // ---------------------------------------------------------------- promise 23: eager

    /** "(at first not)." */
    private static void promise23_atFirstNot() {
        WordHeap x = new WordHeap(64);
        x.make(0, 1);
        x.make(0, 1);
        due("collections", x.total(3), 0);
        due("used", x.total(0), 4);
    }

    /** "From now on it is EAGER": not before something is made. */
    private static void promise23_fromNowOn() {
        WordHeap x = mixed();
        x.eager(true);
        due("collections", x.total(3), 0);
        due("used", x.total(0), MIXED_USED);
        x.make(0, 0);
        due("collections", x.total(3), 1);
        due("given back", x.total(4), MIXED_LOST);
    }

    /** "or not." */
    private static void promise23_orNot() {
        WordHeap x = mixed();
        x.eager(true);
        x.eager(true);
        x.eager(false);
        x.make(0, 0);
        due("collections", x.total(3), 0);
        x.eager(false);
        x.eager(true);
        x.make(0, 0);
        due("collections", x.total(3), 1);
    }

    /** "always when the memory is EAGER": with all that is made, once, and with nothing else. */
    private static void promise23_withAllThatIsMade() {
        Use[] makes = {x -> x.make(0, 0), x -> x.text(0, 0), x -> x.map(0, 1, 0, 0), x -> x.join(0, TEXT, TEXT),
            x -> x.join(0, NIL, NIL), x -> x.part(0, TEXT, 0, 0), x -> x.part(0, NIL, 0, 0)};
        for (int i = 0; i < makes.length; i++) {
            WordHeap x = eagerOne(mixed());
            makes[i].on(x);
            due("collections of " + i, x.total(3), 1);
            due("given back", x.total(4), MIXED_LOST);
        }
        Use[] others = {x -> x.number(0, 1), x -> x.nil(0), x -> x.move(0, 1), x -> x.compare(TEXT, NIL),
            x -> x.byteAt(TEXT, 0), x -> x.setByte(TEXT, 0, 1), x -> x.shift(0, ROW, 0), x -> x.load(0, ROW, 0),
            x -> x.store(ROW, 0, 0), x -> x.copy(ROW, ROW, 4), x -> x.put(MAP, ENTRY), x -> x.put(EMPTY_MAP, ENTRY),
            x -> x.get(MAP, ENTRY), x -> x.remove(MAP, ENTRY), x -> x.next(MAP, 0), x -> x.entry(MAP, 0, ENTRY),
            x -> x.tell(0, 0), x -> x.value(0), x -> x.same(0, 0), x -> x.total(0)};
        for (int i = 0; i < others.length; i++) {
            WordHeap x = eagerOne(mixed());
            others[i].on(x);
            due("collections of other " + i, x.total(3), 0);
            due("used", x.total(0), MIXED_USED);
        }
    }

    /** One collection even where the memory is eager and USED + n is more than the LIMIT. */
    private static void promise23_oneCollectionWhenFull() {
        WordHeap x = eagerOne(mixedAndFull());
        throwing(IS_FULL, "make", x, y -> y.make(0, 4096));
        due("collections", x.total(3), 1);
        due("made", x.total(2), MIXED_MADE);
    }

    // ---------------------------------------------------------------- promise 24: tell

    private static void promise24_noSuchRegister() {
        for (int w = 0; w < 5; w++) {
            int what = w;
            noRegister("tell " + w, (x, r) -> x.tell(r, what));
        }
    }

    /** "no such register or what." */
    private static void promise24_noSuchWhat() {
        for (int r = 0; r < 16; r++) {
            int at = r;
            for (int what : new int[] {-1, 5, LEAST, MOST}) {
                refused(ILLEGAL, "tell " + r + " " + what, BoundaryTests::mixed, x -> x.tell(at, what));
            }
        }
    }

    /** "(0 without one)"; "(0 for others; 1 to 4 are 0 of a number and NIL)." */
    private static void promise24_ofEverySort() {
        WordHeap x = mixed();
        int[][] want = {{0, 0, 0, 0, 0}, {0, 0, 0, 0, 0}, {1, 0, 0, 0, 0}, {2, 9, 0, 4, 0}, {2, 9, 2, 4, 0}, {2, 9, 4, 4, 0},
            {2, 10, 0, 0, 0}, {3, 11, 0, 0, 0}, {3, 4, 0, 9, 0}, {3, 3, 0, 3, 0}, {4, 1, 0, 1, 8}, {4, 2, 0, 0, 8},
            {2, 5, 0, 3, 0}, {2, 5, 1, 3, 0}, {2, 8, 0, 3, 0}, {0, 0, 0, 0, 0}};
        for (int r = 0; r < 16; r++) {
            for (int what = 0; what < 5; what++) {
                due("tell " + r + " " + what, x.tell(r, what), want[r][what]);
            }
        }
    }

    /** A number of the same bits as a reference is a number still. */
    private static void promise24_anyNumberIsANumber() {
        WordHeap x = mixed();
        for (long v : new long[] {0, 1, -1, 8192, 8193, 16384, Long.MIN_VALUE, Long.MAX_VALUE}) {
            x.number(0, v);
            for (int what = 0; what < 5; what++) {
                due("tell " + what + " of " + v, x.tell(0, what), 0);
            }
        }
    }

    // ---------------------------------------------------------------- promise 25: value

    private static void promise25_noSuchRegister() {
        noRegister("value", (x, r) -> x.value(r));
    }

    /** "UnsupportedOperationException: it is none." */
    private static void promise25_noNumber() {
        for (int r = NIL; r < MINUS_ONE; r++) {
            int at = r;
            refused(UNSUPPORTED, "value of " + r, BoundaryTests::mixed, x -> x.value(at));
        }
        due("0", mixed().value(ZERO), 0);
        due("-1", mixed().value(MINUS_ONE), -1);
        due("the least", mixed().value(LEAST_LONG), Long.MIN_VALUE);
    }

    // ---------------------------------------------------------------- promise 26: same

    private static void promise26_noSuchRegister() {
        noRegister("same", (x, r) -> x.same(r, ROW));
        noRegister("same with", (x, r) -> x.same(ROW, r));
        for (int r : NO_REGISTERS) {
            refused(ILLEGAL, "same " + r, BoundaryTests::mixed, x -> x.same(r, r));
        }
    }

    /** "both are numbers and equal, both NIL, or both references to the same place in the same object." */
    private static void promise26_sameWords() {
        WordHeap x = mixed();
        for (int r = 0; r < 16; r++) {
            for (int s = 0; s < 16; s++) {
                due("same " + r + " " + s, x.same(r, s), r == s);
            }
        }
        x.shift(0, ROW_END, -2);
        due("the same place", x.same(0, ROW_MIDDLE), true);
        x.number(0, 1L << 32);
        x.number(1, 0);
        due("numbers of the same lower half", x.same(0, 1), false);
        x.number(0, 0);
        due("equal numbers", x.same(0, 1), true);
        due("0 and NIL", x.same(0, NIL), false);
        x.nil(1);
        due("NIL and NIL", x.same(1, NIL), true);
    }

    /** "(TEXTS by what they refer to, not by their bytes)." */
    private static void promise26_textsByWhatTheyReferTo() {
        WordHeap x = mixed();
        x.load(0, ENTRY, 0);
        due("alike bytes", x.compare(0, KEY_TEXT), 0);
        due("two texts", x.same(0, KEY_TEXT), false);
        x.move(1, KEY_TEXT);
        due("one text", x.same(1, KEY_TEXT), true);
        x.text(0, 0);
        due("two of no bytes", x.same(0, NO_BYTES), false);
        due("no bytes and NIL", x.same(0, NIL), false);
    }

    /** A new object is not the same as one given back, whose place in the memory it may have. */
    private static void promise26_newObjectsAreOthers() {
        WordHeap x = new WordHeap(64);
        x.make(0, 1);
        x.make(1, 1);
        x.nil(0);
        x.collect();
        x.make(2, 1);
        x.make(3, 1);
        for (int r = 1; r < 4; r++) {
            for (int s = 1; s < 4; s++) {
                due("same " + r + " " + s, x.same(r, s), r == s);
            }
        }
    }

    // ---------------------------------------------------------------- promise 27: total

    /** "IllegalArgumentException: no such what." */
    private static void promise27_noSuchWhat() {
        for (int what : new int[] {-1, 5, LEAST, MOST}) {
            refused(ILLEGAL, "total " + what, BoundaryTests::mixed, x -> x.total(what));
        }
    }

    /** "0 USED, 1 the LIMIT, 2 how many objects were made, 3 collections, 4 words given back in all." */
    private static void promise27_allOfThem() {
        WordHeap x = mixed(200);
        int[] before = {MIXED_USED, 200, MIXED_MADE, 0, 0};
        for (int what = 0; what < 5; what++) {
            due("total " + what, x.total(what), before[what]);
        }
        x.collect();
        x.make(0, 0);
        x.nil(0);
        x.collect();
        int[] behind = {MIXED_USED - MIXED_LOST, 200, MIXED_MADE + 1, 2, MIXED_LOST + 1};
        for (int what = 0; what < 5; what++) {
            due("total " + what, x.total(what), behind[what]);
        }
    }

    /** Tables are no objects that were made, but are USED and given back. */
    private static void promise27_tables() {
        WordHeap x = numbered(9);
        due("made", x.total(2), 2);
        due("used", x.total(0), 3 + 6 + 41 + 81);
        x.nil(0);
        due("collect", x.collect(), 6 + 41 + 81);
        due("given back", x.total(4), 6 + 41 + 81);
        due("the next number", x.make(0, 0), 3);
    }

    public static void main(String[] args) throws IllegalAccessException {
        Method[] methods = BoundaryTests.class.getDeclaredMethods();
        Arrays.sort(methods, Comparator.comparing(Method::getName));
        int tests = 0;
        for (Method method : methods) {
            if (!method.getName().startsWith("promise")) {
                continue;
            }
            tests++;
            test = method.getName();
            try {
                method.invoke(null);
            } catch (InvocationTargetException e) {
                fail("the test threw " + e.getCause());
            }
        }
        if (wrong > 0) {
            System.exit(1);
        }
        System.out.println(tests + " tests, " + checks + " answers are as due");
    }
}
