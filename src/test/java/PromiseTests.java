import java.lang.reflect.Constructor;
import java.lang.reflect.Field;
import java.lang.reflect.Method;
import java.lang.reflect.Modifier;
import java.util.Arrays;
import java.util.NoSuchElementException;

/** The promises 1 to 27 by hand: ordinary inputs, the edges that the document names, wrong inputs. */
public final class PromiseTests {
    private static final Class<? extends RuntimeException> ILLEGAL = IllegalArgumentException.class;
    private static final Class<? extends RuntimeException> UNSUPPORTED = UnsupportedOperationException.class;
    private static final Class<? extends RuntimeException> OUTSIDE = IndexOutOfBoundsException.class;
    private static final Class<? extends RuntimeException> FULL = IllegalStateException.class;
    private static final Class<? extends RuntimeException> NO_ENTRY = NoSuchElementException.class;
    private static final int[] NO_REGISTERS = {-1, 16, Integer.MIN_VALUE, Integer.MAX_VALUE};

    private static int promise;
    private static int wrong;
    private static int checks;

    private interface Call {
        void run();
    }

    private static void due(String what, long got, long want) {
        checks++;
        if (got != want) {
            wrong++;
            System.out.println("promise " + promise + ": " + what + " answered " + got + ", due is " + want);
        }
    }

    private static void due(String what, boolean got, boolean want) {
        due(what, got ? 1 : 0, want ? 1 : 0);
    }

    /** The exception itself, not one of a class below it. */
    private static void throwing(Class<? extends RuntimeException> want, String what, Call call) {
        checks++;
        Class<?> got = null;
        try {
            call.run();
        } catch (RuntimeException e) {
            got = e.getClass();
        }
        if (got != want) {
            wrong++;
            System.out.println("promise " + promise + ": " + what + " threw " + got + ", due is " + want);
        }
    }

    private static void text(WordHeap x, int r, String s) {
        x.text(r, s.length());
        for (int i = 0; i < s.length(); i++) {
            x.setByte(r, i, s.charAt(i));
        }
    }

    private static void dueText(String what, WordHeap x, int r, String want) {
        due(what + ": its sort", x.tell(r, 0), 3);
        due(what + ": its bytes", x.tell(r, 3), want.length());
        for (int i = 0; i < want.length() && i < x.tell(r, 3); i++) {
            due(what + ": byte " + i, x.byteAt(r, i), want.charAt(i));
        }
    }

    /** Word k behind the reference in s becomes the number v; register 15 is used up. */
    private static void storeNumber(WordHeap x, int s, int k, long v) {
        x.number(15, v);
        x.store(s, k, 15);
    }

    private static long wordValue(WordHeap x, int s, int k) {
        x.load(15, s, k);
        return x.value(15);
    }

    private static int putNumbers(WordHeap x, int m, int s, long... words) {
        for (int i = 0; i < words.length; i++) {
            storeNumber(x, s, i, words[i]);
        }
        return x.put(m, s);
    }

    private static void face() {
        due("NONE", WordHeap.NONE, -1);
        String[] want = {"number", "nil", "move", "make", "text", "map", "join", "part", "compare", "byteAt", "setByte",
            "shift", "load", "store", "copy", "put", "get", "remove", "next", "entry", "collect", "eager", "tell", "value",
            "same", "total"};
        Arrays.sort(want);
        String[] got = Arrays.stream(WordHeap.class.getDeclaredMethods()).filter(m -> !Modifier.isPrivate(m.getModifiers()))
                .map(Method::getName).sorted().toArray(String[]::new);
        due("the methods of the face", Arrays.equals(got, want), true);
        for (Field f : WordHeap.class.getDeclaredFields()) {
            due("field " + f.getName(), Modifier.isPrivate(f.getModifiers()), !f.getName().equals("NONE"));
        }
        for (Constructor<?> c : WordHeap.class.getDeclaredConstructors()) {
            due("constructor", Modifier.isPublic(c.getModifiers()), true);
        }
    }

    private static void newObject() {
        WordHeap x = new WordHeap(100);
        for (int r = 0; r < 16; r++) {
            due("a register at first", x.tell(r, 0), 1);
        }
        for (int what = 0; what < 5; what++) {
            due("total " + what, x.total(what), what == 1 ? 100 : 0);
        }
        int[][] limits = {{64, 64}, {63, 64}, {65, 65}, {0, 64}, {-7, 64}, {Integer.MIN_VALUE, 64}, {131072, 131072},
            {131073, 131072}, {131071, 131071}, {Integer.MAX_VALUE, 131072}};
        for (int[] limit : limits) {
            due("limit " + limit[0], new WordHeap(limit[0]).total(1), limit[1]);
        }
        fullMemory();
        manyObjects();
    }

    private static void fullMemory() {
        WordHeap x = new WordHeap(131072);
        x.make(0, 4096);
        for (int i = 1; i < 31; i++) {
            x.make(1, 4096);
            x.store(1, 0, 0);
            storeNumber(x, 1, 4095, i);
            x.move(0, 1);
        }
        due("used", x.total(0), 31 * 4097);
        x.make(2, 131072 - 31 * 4097 - 1);
        due("used to the limit", x.total(0), 131072);
        throwing(FULL, "one word more", () -> x.make(3, 0));
        due("collections", x.total(3), 1);
        for (int i = 30; i > 0; i--) {
            due("row " + i, wordValue(x, 0, 4095), i);
            x.load(0, 0, 0);
        }
        x.nil(1);
        x.collect();
        due("the rest", x.total(0), 4097 + 131072 - 31 * 4097);
    }

    private static void manyObjects() {
        WordHeap x = new WordHeap(64);
        for (int i = 1; i <= 250; i++) {
            due("a row of no words", x.make(i % 16, 0), i);
            due("used is within the limit", x.total(0) <= 64, true);
        }
        WordHeap y = new WordHeap(1000);
        y.make(0, 200);
        for (int i = 0; i < 200; i++) {
            due("a text of no bytes", y.text(1, 0), i + 2);
            y.store(0, i, 1);
        }
        y.eager(true);
        y.make(2, 0);
        for (int i = 0; i < 200; i += 5) {
            y.load(1, 0, i);
            due("its number", y.tell(1, 1), i + 2);
        }
        due("used", y.total(0), 201 + 200 + 1);
    }

    private static void number() {
        WordHeap x = new WordHeap(64);
        for (long v : new long[] {0, 1, -1, Long.MIN_VALUE, Long.MAX_VALUE, 8192, 1L << 40}) {
            x.number(15, v);
            due("value", x.value(15), v);
            due("tell 0", x.tell(15, 0), 0);
        }
        for (int r : NO_REGISTERS) {
            throwing(ILLEGAL, "number " + r, () -> x.number(r, 1));
        }
    }

    private static void nil() {
        WordHeap x = new WordHeap(64);
        x.number(0, 5);
        x.nil(0);
        due("tell 0", x.tell(0, 0), 1);
        x.make(15, 3);
        x.nil(15);
        due("tell 0", x.tell(15, 0), 1);
        due("given back", x.collect(), 4);
        for (int r : NO_REGISTERS) {
            throwing(ILLEGAL, "nil " + r, () -> x.nil(r));
        }
    }

    private static void move() {
        WordHeap x = new WordHeap(64);
        x.make(0, 3);
        x.shift(0, 0, 2);
        x.number(1, 77);
        x.move(2, 0);
        due("the same", x.same(2, 0), true);
        due("its place", x.tell(2, 2), 2);
        x.move(2, 1);
        due("value", x.value(2), 77);
        x.move(2, 3);
        due("tell 0", x.tell(2, 0), 1);
        x.move(1, 1);
        due("value", x.value(1), 77);
        for (int r : NO_REGISTERS) {
            throwing(ILLEGAL, "move " + r, () -> x.move(r, 1));
            throwing(ILLEGAL, "move from " + r, () -> x.move(1, r));
        }
        due("value", x.value(1), 77);
    }

    private static void make() {
        WordHeap x = new WordHeap(10000);
        due("make", x.make(0, 0), 1);
        due("used", x.total(0), 1);
        due("make", x.make(15, 4096), 2);
        due("used", x.total(0), 4098);
        due("tell 3", x.tell(15, 3), 4096);
        due("tell 2", x.tell(15, 2), 0);
        due("first word", wordValue2(x, 15, 0), 0);
        due("last word", wordValue2(x, 15, 4095), 0);
        for (int n : new int[] {-1, 4097, Integer.MIN_VALUE, Integer.MAX_VALUE}) {
            throwing(ILLEGAL, "make of " + n, () -> x.make(0, n));
        }
        for (int r : NO_REGISTERS) {
            throwing(ILLEGAL, "make in " + r, () -> x.make(r, 1));
        }
        due("made", x.total(2), 2);
        due("collections", x.total(3), 0);
        clearedWords();
        fullRow();
    }

    private static long wordValue2(WordHeap x, int s, int k) {
        x.load(14, s, k);
        return x.value(14);
    }

    /** Words that were references in objects given back are the number 0 in new ones. */
    private static void clearedWords() {
        WordHeap x = new WordHeap(64);
        x.make(0, 40);
        for (int i = 0; i < 40; i++) {
            x.store(0, i, i % 2 == 0 ? 0 : 3);
        }
        x.nil(0);
        x.make(1, 60);
        due("collections", x.total(3), 1);
        for (int i = 0; i < 60; i++) {
            due("word " + i, wordValue(x, 1, i), 0);
        }
    }

    private static void fullRow() {
        WordHeap x = new WordHeap(64);
        x.make(0, 9);
        storeNumber(x, 0, 0, 5);
        due("up to the limit", x.make(1, 53), 2);
        due("used", x.total(0), 64);
        throwing(FULL, "make", () -> x.make(0, 0));
        due("register 0 stays", x.tell(0, 1), 1);
        due("its word stays", wordValue(x, 0, 0), 5);
        due("made", x.total(2), 2);
        due("the collection stays", x.total(3), 1);
        // What register 1 refers to is reached while its new row is made.
        throwing(FULL, "make", () -> x.make(1, 53));
        x.nil(1);
        due("make", x.make(1, 53), 3);
        due("collections", x.total(3), 3);
        due("given back", x.total(4), 54);
    }

    private static void texts() {
        WordHeap x = new WordHeap(20000);
        int[][] takes = {{0, 1}, {1, 2}, {7, 2}, {8, 2}, {9, 3}, {16, 3}, {17, 4}, {32768, 4097}};
        int used = 0;
        for (int i = 0; i < takes.length; i++) {
            due("text", x.text(0, takes[i][0]), i + 1);
            used += takes[i][1];
            due("used behind " + takes[i][0], x.total(0), used);
            due("tell 3", x.tell(0, 3), takes[i][0]);
            due("tell 2", x.tell(0, 2), 0);
        }
        due("last byte", x.byteAt(0, 32767), 0);
        for (int n : new int[] {-1, 32769, Integer.MIN_VALUE, Integer.MAX_VALUE}) {
            throwing(ILLEGAL, "text of " + n, () -> x.text(0, n));
        }
        for (int r : NO_REGISTERS) {
            throwing(ILLEGAL, "text in " + r, () -> x.text(r, 1));
        }
        due("made", x.total(2), takes.length);
        WordHeap y = new WordHeap(64);
        throwing(FULL, "text", () -> y.text(0, 63 * 8 + 1));
        due("tell 0", y.tell(0, 0), 1);
        y.text(0, 63 * 8);
        for (int i = 0; i < 200; i++) {
            y.setByte(0, i, 255);
        }
        y.nil(0);
        y.text(1, 63 * 8 - 3);
        due("collections", y.total(3), 2);
        for (int i = 0; i < 200; i++) {
            due("a new byte", y.byteAt(1, i), 0);
        }
    }

    private static void maps() {
        WordHeap x = new WordHeap(5000);
        int used = 0;
        int made = 0;
        for (int k = 1; k <= 4; k++) {
            for (int v = 0; v <= 4; v++) {
                made++;
                used += 6 + 1 + 8 * (3 + k + v);
                due("map", x.map(0, k, v, (1 << k) - 1), made);
                due("used", x.total(0), used);
            }
        }
        for (int what = 0; what < 5; what++) {
            due("tell " + what, x.tell(0, what), new int[] {4, made, 0, 0, 8}[what]);
        }
        int[][] bad = {{0, 0, 0}, {5, 0, 0}, {-1, 0, 0}, {1, -1, 0}, {1, 5, 0}, {1, 0, 2}, {1, 0, -1}, {4, 4, 16}, {3, 0, 8},
            {33, 0, 1}, {Integer.MAX_VALUE, 0, 0}, {2, Integer.MIN_VALUE, 0}, {2, 0, Integer.MIN_VALUE}, {32, 0, 0}};
        for (int[] b : bad) {
            throwing(ILLEGAL, "map " + Arrays.toString(b), () -> x.map(0, b[0], b[1], b[2]));
        }
        for (int r : NO_REGISTERS) {
            throwing(ILLEGAL, "map in " + r, () -> x.map(r, 1, 1, 0));
        }
        due("made", x.total(2), made);
        mapAndTableAsOne();
    }

    private static void mapAndTableAsOne() {
        WordHeap x = new WordHeap(64);
        throwing(FULL, "map", () -> x.map(0, 2, 3, 0));
        due("used", x.total(0), 0);
        due("one collection", x.total(3), 1);
        due("made", x.total(2), 0);
        x.make(1, 17);
        throwing(FULL, "map", () -> x.map(0, 1, 1, 0));
        due("used", x.total(0), 18);
        due("collections", x.total(3), 2);
        due("tell 0", x.tell(0, 0), 1);
        x.nil(1);
        due("map", x.map(0, 1, 1, 0), 2);
        due("used", x.total(0), 47);
        x.eager(true);
        throwing(FULL, "map", () -> x.map(0, 1, 1, 0));
        due("collections", x.total(3), 4);
        due("tell 1", x.tell(0, 1), 2);
        WordHeap y = new WordHeap(64);
        due("map", y.map(0, 2, 2, 0), 1);
        due("used", y.total(0), 63);
        due("no collection", y.total(3), 0);
        y.nil(0);
        due("both are given back", y.collect(), 63);
    }

    private static void join() {
        String all = "abcdefghijklmnopqrstuvwxyz";
        for (int i = 0; i <= 18; i++) {
            for (int j = i; j <= 26; j++) {
                WordHeap y = new WordHeap(64);
                text(y, 0, all.substring(0, i));
                text(y, 1, all.substring(i, j));
                due("its number", y.join(2, 0, 1), 3);
                dueText("join of " + i + " and " + (j - i), y, 2, all.substring(0, j));
            }
        }
        WordHeap x = new WordHeap(64);
        text(x, 0, "ab\u00ff");
        x.nil(1);
        x.join(2, 0, 1);
        dueText("join with NIL", x, 2, "ab\u00ff");
        due("another object", x.same(2, 0), false);
        x.join(2, 1, 0);
        dueText("join of NIL", x, 2, "ab\u00ff");
        x.join(2, 1, 1);
        dueText("join of NILs", x, 2, "");
        x.join(0, 0, 0);
        dueText("join to itself", x, 0, "ab\u00ffab\u00ff");
        text(x, 3, "c");
        x.join(3, 0, 3);
        dueText("join to the second", x, 3, "ab\u00ffab\u00ffc");
        x.setByte(3, 0, 'z');
        due("the old one stays", x.byteAt(0, 0), 'a');
        textsToTheLimit();
        joinFails();
    }

    private static void joinFails() {
        WordHeap x = new WordHeap(20000);
        x.text(0, 32768);
        x.text(1, 1);
        x.setByte(1, 0, 9);
        throwing(UNSUPPORTED, "too long", () -> x.join(2, 0, 1));
        x.text(0, 32767);
        x.join(2, 0, 1);
        due("bytes", x.tell(2, 3), 32768);
        due("last byte", x.byteAt(2, 32767), 9);
        x.number(3, 0);
        x.make(4, 1);
        x.map(5, 1, 1, 1);
        for (int s = 3; s < 6; s++) {
            int at = s;
            throwing(UNSUPPORTED, "join of " + s, () -> x.join(2, at, 1));
            throwing(UNSUPPORTED, "join with " + s, () -> x.join(2, 1, at));
        }
        for (int r : NO_REGISTERS) {
            throwing(ILLEGAL, "join in " + r, () -> x.join(r, 3, 3));
            throwing(ILLEGAL, "join of " + r, () -> x.join(2, r, 3));
            throwing(ILLEGAL, "join with " + r, () -> x.join(2, 3, r));
        }
        WordHeap y = new WordHeap(64);
        y.text(0, 250);
        throwing(FULL, "join", () -> y.join(0, 0, 0));
        due("bytes", y.tell(0, 3), 250);
        due("collections", y.total(3), 1);
        y.make(1, 10);
        y.nil(1);
        y.text(2, 8);
        y.setByte(2, 7, 3);
        y.join(0, 2, 2);
        due("a collection made room", y.total(3), 1);
        y.nil(0);
        y.text(0, 200);
        y.join(1, 2, 2);
        due("byte 15", y.byteAt(1, 15), 3);
        y.join(1, 0, 2);
        due("collections", y.total(3), 2);
        due("byte 207", y.byteAt(1, 207), 3);
    }

    /** Texts that end where the limit ends: no word behind them is written. */
    private static void textsToTheLimit() {
        for (int bytes = 225; bytes <= 232; bytes++) {
            WordHeap x = new WordHeap(64);
            x.text(0, bytes);
            x.setByte(0, bytes - 1, 7);
            x.make(1, 64 - x.total(0) * 2 - 1);
            x.join(2, 0, 5);
            due("used", x.total(0), 64);
            due("last byte", x.byteAt(2, bytes - 1), 7);
            x.nil(2);
            x.part(2, 0, 0, bytes);
            due("used", x.total(0), 64);
            due("last byte", x.byteAt(2, bytes - 1), 7);
        }
    }

    private static void part() {
        String all = "abcdefghijklmnopqrstu\u00fe\u0000xy";
        for (int i = 0; i <= all.length(); i++) {
            for (int j = i; j <= all.length(); j++) {
                WordHeap y = new WordHeap(64);
                text(y, 0, all);
                due("its number", y.part(1, 0, i, j), 2);
                dueText("part " + i + " to " + j, y, 1, all.substring(i, j));
            }
        }
        partEdges(all);
    }

    private static void partEdges(String all) {
        WordHeap x = new WordHeap(20000);
        text(x, 0, all);
        // Bytes behind a part's end must not be seen in comparisons.
        x.part(1, 0, 1, 3);
        text(x, 2, "bc");
        due("compare", x.compare(1, 2), 0);
        x.part(2, 2, 0, 1);
        dueText("part of itself", x, 2, "b");
        x.nil(3);
        x.part(4, 3, 0, 0);
        dueText("part of NIL", x, 4, "");
        int[][] bad = {{-1, 0}, {1, 0}, {0, all.length() + 1}, {all.length() + 1, all.length() + 1},
            {Integer.MIN_VALUE, 0}, {0, Integer.MAX_VALUE}, {2, Integer.MIN_VALUE}};
        for (int[] b : bad) {
            throwing(OUTSIDE, "part " + Arrays.toString(b), () -> x.part(1, 0, b[0], b[1]));
        }
        throwing(OUTSIDE, "part of NIL", () -> x.part(1, 3, 0, 1));
        x.number(3, 0);
        throwing(UNSUPPORTED, "part of a number", () -> x.part(1, 3, 0, 1));
        x.make(3, 3);
        throwing(UNSUPPORTED, "part of a row", () -> x.part(1, 3, 5, 1));
        x.map(3, 1, 0, 0);
        throwing(UNSUPPORTED, "part of a map", () -> x.part(1, 3, 0, 0));
        for (int r : NO_REGISTERS) {
            throwing(ILLEGAL, "part in " + r, () -> x.part(r, 3, 0, 0));
            throwing(ILLEGAL, "part of " + r, () -> x.part(1, r, 9, 0));
        }
        WordHeap y = new WordHeap(64);
        y.text(0, 400);
        throwing(OUTSIDE, "outside before full", () -> y.part(0, 0, 0, 401));
        due("no collection", y.total(3), 0);
        throwing(FULL, "part", () -> y.part(0, 0, 0, 400));
        due("bytes", y.tell(0, 3), 400);
        due("collections", y.total(3), 1);
    }

    private static void compare() {
        String[] rising = {"", "\0", "\0\0", "\0a", "a", "a\0", "a\0\0\0\0\0\0\0", "a\0\0\0\0\0\0\0\0", "a\0b", "ab", "abcdefg",
            "abcdefgh", "abcdefgh\0", "abcdefghi", "abcdefgz", "b", "\u007f", "\u0080", "\u0080z", "\u00ff"};
        for (int i = 0; i < rising.length; i++) {
            for (int j = 0; j < rising.length; j++) {
                WordHeap y = new WordHeap(64);
                text(y, 0, rising[i]);
                text(y, 1, rising[j]);
                due("compare of " + i + " and " + j, y.compare(0, 1), Integer.compare(i, j));
            }
        }
        WordHeap x = new WordHeap(20000);
        x.nil(2);
        text(x, 0, "");
        text(x, 1, "a");
        due("NIL and none", x.compare(2, 0), 0);
        due("NIL and some", x.compare(2, 1), -1);
        due("some and NIL", x.compare(1, 2), 1);
        due("NILs", x.compare(2, 2), 0);
        x.number(3, 0);
        x.make(4, 1);
        x.map(5, 1, 0, 0);
        for (int s = 3; s < 6; s++) {
            int at = s;
            throwing(UNSUPPORTED, "compare of " + s, () -> x.compare(at, 1));
            throwing(UNSUPPORTED, "compare with " + s, () -> x.compare(1, at));
        }
        for (int r : NO_REGISTERS) {
            throwing(ILLEGAL, "compare of " + r, () -> x.compare(r, 3));
            throwing(ILLEGAL, "compare with " + r, () -> x.compare(3, r));
        }
        x.text(6, 32768);
        due("two of many bytes", x.compare(6, 6), 0);
    }

    private static void byteAt() {
        WordHeap x = new WordHeap(64);
        text(x, 0, "\u00ff\u0080\u0001abcdefgh");
        int[] want = {255, 128, 1, 'a', 'b', 'c', 'd', 'e', 'f', 'g', 'h'};
        for (int i = 0; i < want.length; i++) {
            due("byte " + i, x.byteAt(0, i), want[i]);
        }
        for (int i : new int[] {-1, 11, Integer.MIN_VALUE, Integer.MAX_VALUE}) {
            throwing(OUTSIDE, "byte " + i, () -> x.byteAt(0, i));
        }
        throwing(OUTSIDE, "byte of NIL", () -> x.byteAt(1, 0));
        x.number(2, 5);
        throwing(UNSUPPORTED, "byte of a number", () -> x.byteAt(2, -1));
        x.make(2, 2);
        throwing(UNSUPPORTED, "byte of a row", () -> x.byteAt(2, 0));
        for (int r : NO_REGISTERS) {
            throwing(ILLEGAL, "byte of " + r, () -> x.byteAt(r, 0));
        }
    }

    private static void setByte() {
        WordHeap x = new WordHeap(500);
        x.text(0, 10);
        x.setByte(0, 8, 0x1ff);
        due("byte 8", x.byteAt(0, 8), 255);
        x.setByte(0, 8, -2);
        due("byte 8", x.byteAt(0, 8), 254);
        x.setByte(0, 8, 256);
        due("byte 8", x.byteAt(0, 8), 0);
        x.setByte(0, 7, 7);
        x.setByte(0, 9, 9);
        for (int i = 0; i < 10; i++) {
            due("byte " + i, x.byteAt(0, i), i == 7 || i == 9 ? i : 0);
        }
        for (int i : new int[] {-1, 10, Integer.MIN_VALUE, Integer.MAX_VALUE}) {
            throwing(OUTSIDE, "byte " + i, () -> x.setByte(0, i, 1));
        }
        throwing(OUTSIDE, "byte of NIL", () -> x.setByte(1, 0, 1));
        x.number(2, 5);
        throwing(UNSUPPORTED, "byte of a number", () -> x.setByte(2, -1, 1));
        x.map(2, 1, 0, 0);
        throwing(UNSUPPORTED, "byte of a map", () -> x.setByte(2, 0, 1));
        for (int r : NO_REGISTERS) {
            throwing(ILLEGAL, "byte of " + r, () -> x.setByte(r, 0, 1));
        }
        textsOfKeys();
    }

    private static void textsOfKeys() {
        WordHeap x = new WordHeap(500);
        x.map(0, 2, 1, 1);
        x.make(1, 3);
        text(x, 2, "one");
        text(x, 3, "two");
        text(x, 4, "six");
        x.store(1, 0, 2);
        x.store(1, 1, 3);
        x.store(1, 2, 4);
        x.put(0, 1);
        throwing(UNSUPPORTED, "of a key", () -> x.setByte(2, 0, 'x'));
        throwing(UNSUPPORTED, "before outside", () -> x.setByte(2, 3, 'x'));
        x.setByte(3, 0, 'T');
        x.setByte(4, 0, 'S');
        due("bytes stay", x.byteAt(2, 0), 'o');
        // A key that only finds one alike is no entry's key.
        text(x, 5, "one");
        x.store(1, 0, 5);
        due("put", x.put(0, 1), 0);
        x.setByte(5, 0, 'O');
        x.setByte(5, 0, 'o');
        due("get", x.get(0, 1), 0);
        due("remove", x.remove(0, 1), 0);
        x.setByte(5, 0, 'O');
        throwing(UNSUPPORTED, "of a key removed", () -> x.setByte(2, 0, 'x'));
        x.nil(0);
        x.nil(3);
        x.collect();
        throwing(UNSUPPORTED, "behind a collection", () -> x.setByte(2, 0, 'x'));
        x.part(6, 2, 0, 3);
        x.setByte(6, 0, 'n');
        due("a part of it is new", x.byteAt(6, 0), 'n');
    }

    private static void shift() {
        WordHeap x = new WordHeap(5000);
        x.make(0, 3);
        for (int k = 0; k <= 3; k++) {
            x.shift(1, 0, k);
            due("place", x.tell(1, 2), k);
            due("words", x.tell(1, 3), 3);
            due("number", x.tell(1, 1), 1);
        }
        x.shift(2, 1, -3);
        due("the same", x.same(2, 0), true);
        for (int k : new int[] {1, -4, Integer.MIN_VALUE, Integer.MAX_VALUE}) {
            throwing(OUTSIDE, "shift " + k, () -> x.shift(2, 1, k));
        }
        throwing(OUTSIDE, "shift -1", () -> x.shift(2, 0, -1));
        throwing(OUTSIDE, "shift 4", () -> x.shift(2, 0, 4));
        due("place stays", x.tell(2, 2), 0);
        x.shift(0, 0, 2);
        due("place", x.tell(0, 2), 2);
        x.make(3, 0);
        x.shift(3, 3, 0);
        x.make(3, 4096);
        x.shift(4, 3, 4096);
        due("place", x.tell(4, 2), 4096);
    }

    private static void shiftFails() {
        WordHeap x = new WordHeap(500);
        x.number(1, 3);
        x.text(2, 3);
        x.map(3, 1, 0, 0);
        for (int s = 0; s < 4; s++) {
            int at = s;
            throwing(UNSUPPORTED, "shift of " + s, () -> x.shift(4, at, 0));
            throwing(UNSUPPORTED, "load of " + s, () -> x.load(4, at, 0));
            throwing(UNSUPPORTED, "store of " + s, () -> x.store(at, 0, 4));
        }
        for (int r : NO_REGISTERS) {
            throwing(ILLEGAL, "shift in " + r, () -> x.shift(r, 0, 9));
            throwing(ILLEGAL, "shift of " + r, () -> x.shift(0, r, 9));
            throwing(ILLEGAL, "load in " + r, () -> x.load(r, 0, 9));
            throwing(ILLEGAL, "load of " + r, () -> x.load(0, r, 9));
            throwing(ILLEGAL, "store of " + r, () -> x.store(0, 9, r));
            throwing(ILLEGAL, "store in " + r, () -> x.store(r, 9, 0));
        }
    }

    private static void load() {
        WordHeap x = new WordHeap(500);
        x.make(0, 4);
        for (int i = 0; i < 4; i++) {
            storeNumber(x, 0, i, 10 + i);
        }
        x.shift(1, 0, 2);
        for (int k = -2; k < 2; k++) {
            x.load(2, 1, k);
            due("word " + k, x.value(2), 12 + k);
        }
        for (int k : new int[] {-3, 2, Integer.MIN_VALUE, Integer.MAX_VALUE}) {
            throwing(OUTSIDE, "load " + k, () -> x.load(2, 1, k));
            throwing(OUTSIDE, "store " + k, () -> x.store(1, k, 2));
        }
        due("value stays", x.value(2), 13);
        x.shift(3, 0, 4);
        throwing(OUTSIDE, "behind the last", () -> x.load(2, 3, 0));
        x.load(2, 3, -4);
        due("word 0", x.value(2), 10);
        x.make(4, 0);
        throwing(OUTSIDE, "no words", () -> x.load(2, 4, 0));
        x.load(1, 1, 0);
        due("into itself", x.value(1), 12);
    }

    private static void store() {
        WordHeap x = new WordHeap(500);
        x.make(0, 3);
        x.store(0, 0, 0);
        x.store(0, 1, 5);
        x.number(1, Long.MIN_VALUE);
        x.store(0, 2, 1);
        x.load(2, 0, 0);
        due("a reference to itself", x.same(2, 0), true);
        x.load(2, 0, 1);
        due("NIL", x.tell(2, 0), 1);
        x.load(2, 0, 2);
        due("a number", x.value(2), Long.MIN_VALUE);
        x.shift(3, 0, 3);
        x.store(3, -3, 3);
        x.load(2, 0, 0);
        due("a place behind the last", x.tell(2, 2), 3);
        throwing(OUTSIDE, "behind the last", () -> x.store(3, 0, 1));
        throwing(OUTSIDE, "below the first", () -> x.store(0, -1, 1));
        x.text(4, 2);
        x.store(0, 0, 4);
        x.load(5, 0, 0);
        due("a text", x.same(4, 5), true);
        x.number(4, 1);
        x.store(0, 0, 4);
        x.load(5, 0, 0);
        due("a number again", x.value(5), 1);
    }

    private static void copy() {
        int[][] moves = {{0, 3, 4}, {3, 0, 4}, {1, 0, 7}, {0, 1, 7}, {2, 2, 5}, {0, 0, 8}, {8, 8, 0}, {0, 8, 0}, {7, 0, 1}};
        for (int[] move : moves) {
            WordHeap x = new WordHeap(100);
            x.make(0, 8);
            long[] want = new long[8];
            for (int i = 0; i < 8; i++) {
                want[i] = i + 1;
                storeNumber(x, 0, i, i + 1);
            }
            System.arraycopy(want, move[1], want, move[0], move[2]);
            x.shift(1, 0, move[0]);
            x.shift(2, 0, move[1]);
            x.copy(1, 2, move[2]);
            for (int i = 0; i < 8; i++) {
                due("copy " + Arrays.toString(move) + ", word " + i, wordValue(x, 0, i), want[i]);
            }
        }
        copiedReferences();
        copiedEdges();
        copyFails();
    }

    private static void copiedReferences() {
        WordHeap x = new WordHeap(100);
        x.make(0, 3);
        x.make(1, 5);
        x.store(0, 0, 1);
        x.store(0, 1, 9);
        storeNumber(x, 0, 2, 4);
        x.shift(2, 1, 2);
        x.copy(2, 0, 3);
        x.load(3, 1, 2);
        due("a reference", x.same(3, 1), true);
        x.load(3, 1, 3);
        due("NIL", x.tell(3, 0), 1);
        due("a number", wordValue(x, 1, 4), 4);
        due("not before", wordValue(x, 1, 1), 0);
        x.shift(4, 1, 1);
        x.copy(4, 2, 3);
        x.load(3, 1, 1);
        due("a reference, overlapping", x.same(3, 1), true);
        due("a number, overlapping", wordValue(x, 1, 3), 4);
        x.copy(2, 4, 3);
        x.load(3, 1, 2);
        due("a reference, overlapping", x.same(3, 1), true);
        x.load(3, 1, 3);
        due("NIL, overlapping", x.tell(3, 0), 1);
        due("a number, overlapping", wordValue(x, 1, 4), 4);
    }

    /** What stands before and behind the copied words stays a number or a reference. */
    private static void copiedEdges() {
        for (int to = 0; to <= 6; to++) {
            for (int from = 0; from <= 6; from++) {
                WordHeap x = new WordHeap(64);
                x.make(0, 10);
                boolean[] refers = new boolean[10];
                for (int i = 0; i < 10; i++) {
                    refers[i] = i % 3 == 0 || i == 7;
                    x.number(1, i);
                    x.store(0, i, refers[i] ? 0 : 1);
                }
                System.arraycopy(refers, from, refers, to, 3);
                x.shift(2, 0, to);
                x.shift(3, 0, from);
                x.copy(2, 3, 3);
                for (int i = 0; i < 10; i++) {
                    x.load(4, 0, i);
                    due("word " + i + " behind a copy from " + from + " to " + to, x.tell(4, 0), refers[i] ? 2 : 0);
                }
            }
        }
    }

    private static void copyFails() {
        WordHeap x = new WordHeap(10000);
        x.make(0, 4096);
        x.make(1, 4096);
        storeNumber(x, 1, 4095, 8);
        x.copy(0, 1, 4096);
        due("last word", wordValue(x, 0, 4095), 8);
        for (int n : new int[] {-1, 4097, Integer.MIN_VALUE, Integer.MAX_VALUE}) {
            throwing(ILLEGAL, "copy of " + n, () -> x.copy(0, 1, n));
            throwing(ILLEGAL, "copy of " + n + " from NIL", () -> x.copy(0, 5, n));
        }
        x.shift(2, 0, 1);
        throwing(OUTSIDE, "copy to", () -> x.copy(2, 1, 4096));
        throwing(OUTSIDE, "copy from", () -> x.copy(1, 2, 4096));
        x.copy(1, 2, 4095);
        x.shift(2, 0, 4096);
        x.copy(2, 2, 0);
        throwing(OUTSIDE, "copy from the end", () -> x.copy(0, 2, 1));
        x.number(3, 0);
        x.text(4, 1);
        x.map(6, 1, 0, 0);
        for (int s = 3; s < 7; s++) {
            int at = s;
            throwing(UNSUPPORTED, "copy from " + s, () -> x.copy(0, at, 0));
            throwing(UNSUPPORTED, "copy to " + s, () -> x.copy(at, 0, 0));
            throwing(UNSUPPORTED, "before outside", () -> x.copy(2, at, 1));
            throwing(UNSUPPORTED, "before outside", () -> x.copy(at, 2, 1));
        }
        for (int r : NO_REGISTERS) {
            throwing(ILLEGAL, "copy to " + r, () -> x.copy(r, 3, 0));
            throwing(ILLEGAL, "copy from " + r, () -> x.copy(3, r, 0));
        }
    }

    private static void put() {
        WordHeap x = new WordHeap(5000);
        x.map(0, 2, 2, 0);
        x.make(1, 6);
        x.shift(2, 1, 1);
        due("the first", putNumbers(x, 0, 2, 1, 2, 3, 4), 0);
        due("the second", putNumbers(x, 0, 2, 1, 3, 5, 6), 1);
        due("the first again", putNumbers(x, 0, 2, 1, 2, 7, 8), 0);
        due("entries", x.tell(0, 3), 2);
        due("used", x.total(0), 7 + 6 + 57);
        x.entry(0, 0, 1);
        due("key 0", wordValue(x, 1, 0), 1);
        due("key 1", wordValue(x, 1, 1), 2);
        due("value 0", wordValue(x, 1, 2), 7);
        due("value 1", wordValue(x, 1, 3), 8);
        x.remove(0, 1);
        due("a new order", x.put(0, 1), 2);
        putSorts();
        putTexts();
        everyTextualWord();
        putFails();
        tables();
        tablesFull();
        tableCollections();
        tableAtTheEnd();
        mapsOfAllShapes();
    }

    /** Words of all sorts are keys; a number is not alike to a reference of the same bits. */
    private static void putSorts() {
        WordHeap x = new WordHeap(5000);
        x.map(0, 1, 0, 0);
        x.make(1, 1);
        x.make(2, 3);
        x.shift(3, 2, 1);
        x.text(4, 0);
        x.text(5, 0);
        x.number(6, 0);
        x.number(7, 8192);
        x.number(8, 16384);
        x.nil(9);
        int[] keys = {0, 1, 2, 3, 4, 5, 6, 7, 8, 9};
        for (int i = 0; i < keys.length; i++) {
            x.store(1, 0, keys[i]);
            due("put of " + keys[i], x.put(0, 1), i);
        }
        x.eager(true);
        x.make(10, 0);
        for (int i = 0; i < keys.length; i++) {
            x.store(1, 0, keys[i]);
            due("put again of " + keys[i], x.put(0, 1), i);
            due("get of " + keys[i], x.get(0, 1), i);
        }
        due("entries", x.tell(0, 3), 10);
    }

    private static void putTexts() {
        WordHeap x = new WordHeap(5000);
        x.map(0, 3, 1, 5);
        x.make(1, 4);
        text(x, 2, "abcdefghi");
        text(x, 3, "abcdefghi");
        text(x, 4, "abcdefghj");
        x.text(5, 0);
        x.nil(6);
        int[][] keys = {{2, 2, 5}, {3, 2, 6}, {2, 3, 5}, {4, 2, 5}, {6, 2, 6}, {5, 2, 5}, {2, 2, 2}};
        int[] orders = {0, 0, 1, 2, 3, 3, 4};
        for (int i = 0; i < keys.length; i++) {
            for (int w = 0; w < 3; w++) {
                x.store(1, w, keys[i][w]);
            }
            storeNumber(x, 1, 3, i);
            due("put of " + Arrays.toString(keys[i]), x.put(0, 1), orders[i]);
        }
        x.entry(0, 0, 1);
        x.load(7, 1, 0);
        due("the first key stays", x.same(7, 2), true);
        x.load(7, 1, 2);
        due("its empty text stays", x.same(7, 5), true);
        due("its value is exchanged", wordValue(x, 1, 3), 1);
        x.entry(0, 3, 1);
        x.load(7, 1, 0);
        due("its NIL stays", x.tell(7, 0), 1);
        x.setByte(3, 0, 'x');
        throwing(UNSUPPORTED, "text 2", () -> x.setByte(2, 0, 'x'));
    }

    /** Each word of a key by itself: textual it is looked at by its bytes and its text is kept, else not. */
    private static void everyTextualWord() {
        for (int texts = 0; texts < 16; texts++) {
            WordHeap x = new WordHeap(500);
            x.map(0, 4, 1, texts);
            x.make(1, 5);
            for (int w = 0; w < 4; w++) {
                text(x, 2 + w, "w" + w);
                text(x, 6 + w, "w" + w);
                text(x, 10 + w, "v" + w);
                x.store(1, w, 2 + w);
            }
            due("capacity", x.tell(0, 4), 8);
            due("put", x.put(0, 1), 0);
            for (int w = 0; w < 4; w++) {
                boolean textual = (texts >> w & 1) == 1;
                x.store(1, w, 6 + w);
                due("alike bytes in word " + w + " of " + texts, x.get(0, 1), textual ? 0 : WordHeap.NONE);
                x.store(1, w, 10 + w);
                due("other bytes in word " + w + " of " + texts, x.get(0, 1), WordHeap.NONE);
                storeNumber(x, 1, w, 0);
                throwing(textual ? UNSUPPORTED : null, "a number in word " + w + " of " + texts, () -> x.get(0, 1));
                x.store(1, w, 2 + w);
                int r = 2 + w;
                throwing(textual ? UNSUPPORTED : null, "setByte, word " + w + " of " + texts, () -> x.setByte(r, 0, 'W'));
            }
            due("get", x.get(0, 1), 0);
        }
    }

    private static void putFails() {
        WordHeap x = new WordHeap(5000);
        x.map(0, 2, 1, 2);
        x.make(1, 4);
        x.shift(2, 1, 1);
        x.shift(3, 1, 2);
        throwing(UNSUPPORTED, "a number as text", () -> x.put(0, 1));
        throwing(OUTSIDE, "not so many, before textual ones", () -> x.put(0, 3));
        x.store(1, 1, 1);
        throwing(UNSUPPORTED, "a row as text", () -> x.put(0, 1));
        x.store(1, 1, 0);
        throwing(UNSUPPORTED, "a map as text", () -> x.put(0, 1));
        x.nil(4);
        x.store(1, 1, 4);
        due("NIL as text", x.put(0, 1), 0);
        x.store(1, 2, 4);
        due("up to the last word", x.put(0, 2), 1);
        x.text(5, 1);
        x.number(6, 1);
        for (int m : new int[] {1, 4, 5, 6}) {
            throwing(UNSUPPORTED, "put into " + m, () -> x.put(m, 1));
            throwing(UNSUPPORTED, "put into " + m + ", before outside", () -> x.put(m, 3));
        }
        for (int s : new int[] {0, 4, 5, 6}) {
            throwing(UNSUPPORTED, "put of " + s, () -> x.put(0, s));
        }
        for (int r : NO_REGISTERS) {
            throwing(ILLEGAL, "put into " + r, () -> x.put(r, 4));
            throwing(ILLEGAL, "put of " + r, () -> x.put(4, r));
        }
        due("entries", x.tell(0, 3), 2);
    }

    /** When a new table comes, and which capacity it has. */
    private static void tables() {
        for (int removed = 0; removed <= 8; removed++) {
            WordHeap x = new WordHeap(5000);
            x.map(0, 1, 1, 0);
            x.make(1, 2);
            for (int i = 0; i < 8; i++) {
                due("put", putNumbers(x, 0, 1, i, 100 + i), i);
            }
            for (int i = 0; i < removed; i++) {
                storeNumber(x, 1, 0, i);
                due("remove", x.remove(0, 1), i);
            }
            due("capacity", x.tell(0, 4), 8);
            int used = x.total(0);
            if (removed < 8) {
                due("exchange", putNumbers(x, 0, 1, 7, 777), 7);
                due("used", x.total(0), used);
            }
            due("put", putNumbers(x, 0, 1, 50, 150), 8);
            int capacity = removed <= 2 ? 16 : 8;
            due("capacity with " + removed + " removed", x.tell(0, 4), capacity);
            due("used", x.total(0), used + 1 + capacity * 5);
            due("entries", x.tell(0, 3), 9 - removed);
            due("the old table", x.collect(), 41);
            int next = 0;
            for (int i = removed; i < 8; i++) {
                due("next", x.next(0, next), i);
                next = i + 1;
            }
            due("next", x.next(0, next), 8);
            // Those that came from the old table count: as many more can be put in as are left.
            for (int i = 0; i < capacity - (9 - removed); i++) {
                putNumbers(x, 0, 1, 60 + i, 1);
                due("capacity stays", x.tell(0, 4), capacity);
            }
            due("used stays", x.total(0), used - 41 + 1 + capacity * 5);
            putNumbers(x, 0, 1, 99, 1);
            due("capacity doubles", x.tell(0, 4), 2 * capacity);
            storeNumber(x, 1, 0, 50);
            due("get", x.get(0, 1), 8);
            due("value", wordValue(x, 1, 1), 150);
        }
    }

    private static void tablesFull() {
        WordHeap x = new WordHeap(200);
        x.map(0, 1, 1, 1);
        x.make(1, 2);
        for (int i = 0; i < 8; i++) {
            x.text(2, 1);
            x.setByte(2, 0, i);
            x.store(1, 0, 2);
            due("put", x.put(0, 1), i);
        }
        x.make(3, 200 - x.total(0) - 2 - 1);
        x.text(2, 1);
        x.setByte(2, 0, 99);
        x.store(1, 0, 2);
        due("used", x.total(0), 200);
        int collections = x.total(3);
        throwing(FULL, "put", () -> x.put(0, 1));
        due("collections", x.total(3), collections + 1);
        due("capacity", x.tell(0, 4), 8);
        due("entries", x.tell(0, 3), 8);
        due("no entry", x.get(0, 1), -1);
        x.setByte(2, 0, 3);
        storeNumber(x, 1, 1, 33);
        due("one alike takes nothing", x.put(0, 1), 3);
        due("collections", x.total(3), collections + 1);
        x.setByte(2, 0, 99);
        x.nil(3);
        due("put", x.put(0, 1), 8);
        due("collections", x.total(3), collections + 2);
        due("capacity", x.tell(0, 4), 16);
        due("used", x.total(0), 6 + 3 + 8 * 2 + 2 + 41 + 81);
        throwing(UNSUPPORTED, "now of a key", () -> x.setByte(2, 0, 1));
    }

    /** A collection that comes with a new table moves the row that the entry comes from. */
    private static void tableCollections() {
        WordHeap x = new WordHeap(2000);
        x.make(3, 50);
        x.map(0, 1, 2, 0);
        x.make(4, 50);
        x.make(1, 5);
        x.shift(1, 1, 2);
        x.nil(3);
        x.nil(4);
        for (int i = 0; i < 8; i++) {
            putNumbers(x, 0, 1, i, i * i, -i);
        }
        x.eager(true);
        storeNumber(x, 1, -1, 7);
        due("put", putNumbers(x, 0, 1, 100, 200, 300), 8);
        due("collections", x.total(3), 1);
        due("given back", x.total(4), 102);
        due("used", x.total(0), 6 + 6 + 8 * 6 + 1 + 16 * 6 + 1);
        putNumbers(x, 0, 1, 101, 0, 0);
        due("no collection without a new table", x.total(3), 1);
        for (int i = 0; i < 8; i++) {
            storeNumber(x, 1, 0, i);
            due("get", x.get(0, 1), i);
            due("value 0", wordValue(x, 1, 1), i * i);
            due("value 1", wordValue(x, 1, 2), -i);
        }
        x.shift(2, 1, -1);
        x.entry(0, 8, 2);
        due("key", wordValue(x, 2, 0), 100);
        due("value 0", wordValue(x, 2, 1), 200);
        due("value 1", wordValue(x, 2, 2), 300);
    }

    /** A full table as the last of all words, which fill the limit: nothing behind it is looked at. */
    private static void tableAtTheEnd() {
        WordHeap x = new WordHeap(64);
        x.make(1, 2);
        x.make(2, 64 - 3 - 47 - 1);
        x.map(0, 1, 1, 0);
        due("used", x.total(0), 64);
        for (int i = 0; i < 8; i++) {
            due("put", putNumbers(x, 0, 1, i, i), i);
        }
        due("next", x.next(0, 8), WordHeap.NONE);
        throwing(NO_ENTRY, "entry 8", () -> x.entry(0, 8, 1));
        storeNumber(x, 1, 0, 8);
        due("get", x.get(0, 1), WordHeap.NONE);
        due("remove", x.remove(0, 1), WordHeap.NONE);
        throwing(FULL, "put", () -> x.put(0, 1));
        storeNumber(x, 1, 0, 7);
        due("remove", x.remove(0, 1), 7);
        // A header behind a full table is no entry.
        WordHeap y = new WordHeap(200);
        y.map(0, 1, 0, 0);
        y.make(1, 1);
        for (int i = 0; i < 8; i++) {
            putNumbers(y, 0, 1, i);
        }
        due("next", y.next(0, 8), WordHeap.NONE);
        y.map(2, 1, 0, 0);
        due("put", putNumbers(y, 0, 1, 8), 8);
        due("entries", y.tell(0, 3), 9);
        y.collect();
        for (int i = 0; i < 9; i++) {
            due("next", y.next(0, i), i);
        }
    }

    private static void mapsOfAllShapes() {
        for (int k = 1; k <= 4; k++) {
            for (int v = 0; v <= 4; v++) {
                WordHeap x = new WordHeap(5000);
                x.map(0, k, v, 0);
                x.make(1, k + v);
                for (int i = 0; i < 12; i++) {
                    long[] words = new long[k + v];
                    for (int w = 0; w < k + v; w++) {
                        words[w] = w == i % k ? i : w < k ? 0 : i + w;
                    }
                    int order = putNumbers(x, 0, 1, words);
                    due("put", order, i);
                }
                due("capacity", x.tell(0, 4), 16);
                for (int i = 0; i < 12; i++) {
                    x.entry(0, i, 1);
                    for (int w = 0; w < k + v; w++) {
                        due("word " + w, wordValue(x, 1, w), w == i % k ? i : w < k ? 0 : i + w);
                    }
                }
            }
        }
    }

    private static void get() {
        WordHeap x = new WordHeap(5000);
        x.map(0, 1, 2, 0);
        x.make(1, 5);
        x.shift(2, 1, 1);
        putNumbers(x, 0, 2, 5, 50, 500);
        storeNumber(x, 2, 1, 1);
        storeNumber(x, 2, 2, 2);
        storeNumber(x, 2, 3, 3);
        due("get", x.get(0, 2), 0);
        due("value 0", wordValue(x, 2, 1), 50);
        due("value 1", wordValue(x, 2, 2), 500);
        due("not behind", wordValue(x, 2, 3), 3);
        due("not before", wordValue(x, 2, -1), 0);
        storeNumber(x, 2, 0, 6);
        due("get of none", x.get(0, 2), WordHeap.NONE);
        due("value stays", wordValue(x, 2, 1), 50);
        x.shift(3, 1, 3);
        throwing(OUTSIDE, "no room for the value", () -> x.get(0, 3));
        throwing(OUTSIDE, "no room for the value", () -> x.remove(0, 3));
        throwing(OUTSIDE, "no room for the value", () -> x.entry(0, 0, 3));
        // A value may hold a reference, also to the row that it is read into.
        x.store(2, 1, 1);
        due("put", x.put(0, 2), 1);
        storeNumber(x, 2, 1, 0);
        due("get", x.get(0, 2), 1);
        x.load(4, 2, 1);
        due("a reference", x.same(4, 1), true);
        sameExceptions();
    }

    /** What get, remove and entry throw alike. */
    private static void sameExceptions() {
        WordHeap x = new WordHeap(5000);
        x.map(0, 1, 0, 1);
        x.make(1, 1);
        x.shift(2, 1, 1);
        throwing(UNSUPPORTED, "get of a number as text", () -> x.get(0, 1));
        throwing(UNSUPPORTED, "remove of a number as text", () -> x.remove(0, 1));
        throwing(OUTSIDE, "get", () -> x.get(0, 2));
        throwing(OUTSIDE, "remove", () -> x.remove(0, 2));
        throwing(OUTSIDE, "entry, before no entry", () -> x.entry(0, 0, 2));
        throwing(NO_ENTRY, "entry, whatever stands there", () -> x.entry(0, 0, 1));
        x.text(4, 1);
        x.number(5, 1);
        for (int m : new int[] {1, 3, 4, 5}) {
            throwing(UNSUPPORTED, "get from " + m, () -> x.get(m, 2));
            throwing(UNSUPPORTED, "remove from " + m, () -> x.remove(m, 2));
            throwing(UNSUPPORTED, "entry of " + m, () -> x.entry(m, 0, 2));
            throwing(UNSUPPORTED, "next of " + m, () -> x.next(m, 0));
        }
        for (int s : new int[] {0, 3, 4, 5}) {
            throwing(UNSUPPORTED, "get of " + s, () -> x.get(0, s));
            throwing(UNSUPPORTED, "remove of " + s, () -> x.remove(0, s));
            throwing(UNSUPPORTED, "entry to " + s, () -> x.entry(0, 0, s));
        }
        for (int r : NO_REGISTERS) {
            throwing(ILLEGAL, "get from " + r, () -> x.get(r, 5));
            throwing(ILLEGAL, "get of " + r, () -> x.get(5, r));
            throwing(ILLEGAL, "remove from " + r, () -> x.remove(r, 5));
            throwing(ILLEGAL, "remove of " + r, () -> x.remove(5, r));
            throwing(ILLEGAL, "entry of " + r, () -> x.entry(r, 0, 5));
            throwing(ILLEGAL, "entry to " + r, () -> x.entry(5, 0, r));
            throwing(ILLEGAL, "next of " + r, () -> x.next(r, 0));
        }
    }

    private static void remove() {
        WordHeap x = new WordHeap(5000);
        x.map(0, 1, 1, 0);
        x.make(1, 2);
        due("remove from none", x.remove(0, 1), WordHeap.NONE);
        for (int i = 0; i < 5; i++) {
            putNumbers(x, 0, 1, i, i);
        }
        storeNumber(x, 1, 1, 77);
        storeNumber(x, 1, 0, 2);
        due("remove", x.remove(0, 1), 2);
        due("its words stay", wordValue(x, 1, 1), 77);
        due("remove again", x.remove(0, 1), WordHeap.NONE);
        due("get", x.get(0, 1), WordHeap.NONE);
        due("entries", x.tell(0, 3), 4);
        due("put again", x.put(0, 1), 5);
        due("get", x.get(0, 1), 5);
        due("next", x.next(0, 2), 3);
        removedReferences();
    }

    private static void removedReferences() {
        WordHeap x = new WordHeap(5000);
        x.map(0, 1, 1, 1);
        x.make(1, 2);
        x.text(2, 8);
        x.make(3, 9);
        x.store(1, 0, 2);
        x.store(1, 1, 3);
        x.put(0, 1);
        x.text(4, 8);
        x.store(1, 0, 4);
        x.nil(2);
        x.nil(3);
        storeNumber(x, 1, 1, 0);
        due("a key and a value are reached", x.collect(), 0);
        due("remove", x.remove(0, 1), 0);
        due("what it referred to is not", x.collect(), 12);
    }

    private static void next() {
        WordHeap x = new WordHeap(5000);
        x.map(0, 1, 0, 0);
        x.make(1, 1);
        due("next of none", x.next(0, 0), WordHeap.NONE);
        for (int i = 0; i < 20; i++) {
            putNumbers(x, 0, 1, i);
        }
        for (int i = 0; i < 20; i += 1 + i % 3) {
            storeNumber(x, 1, 0, i);
            x.remove(0, 1);
        }
        boolean[] there = new boolean[20];
        Arrays.fill(there, true);
        for (int i = 0; i < 20; i += 1 + i % 3) {
            there[i] = false;
        }
        for (int from = -2; from < 23; from++) {
            int want = Math.max(0, from);
            while (want < 20 && !there[want]) {
                want++;
            }
            due("next " + from, x.next(0, from), want < 20 ? want : WordHeap.NONE);
        }
        due("next of the least int", x.next(0, Integer.MIN_VALUE), x.next(0, 0));
        due("next of the greatest int", x.next(0, Integer.MAX_VALUE), WordHeap.NONE);
    }

    private static void entry() {
        WordHeap x = new WordHeap(5000);
        x.map(0, 1, 1, 1);
        x.make(1, 4);
        text(x, 2, "k");
        x.store(1, 0, 2);
        x.store(1, 1, 0);
        due("put", x.put(0, 1), 0);
        x.make(3, 4);
        x.shift(4, 3, 1);
        x.entry(0, 0, 4);
        x.load(5, 3, 1);
        due("key", x.same(5, 2), true);
        x.load(5, 3, 2);
        due("value", x.same(5, 0), true);
        due("not before", wordValue(x, 3, 0), 0);
        due("not behind", wordValue(x, 3, 3), 0);
        for (int order : new int[] {-1, 1, Integer.MIN_VALUE, Integer.MAX_VALUE}) {
            throwing(NO_ENTRY, "entry " + order, () -> x.entry(0, order, 4));
        }
        x.remove(0, 1);
        throwing(NO_ENTRY, "entry removed", () -> x.entry(0, 0, 4));
        x.put(0, 1);
        throwing(NO_ENTRY, "its order does not come back", () -> x.entry(0, 0, 4));
        x.entry(0, 1, 4);
    }

    private static void collect() {
        WordHeap x = new WordHeap(5000);
        due("nothing", x.collect(), 0);
        x.make(0, 2);
        x.make(1, 3);
        x.store(0, 0, 1);
        x.store(1, 0, 0);
        x.shift(1, 1, 3);
        x.nil(0);
        due("a place behind the last reaches all", x.collect(), 0);
        x.load(0, 1, -3);
        due("its number", x.tell(0, 1), 1);
        x.nil(0);
        x.nil(1);
        due("a ring", x.collect(), 7);
        due("used", x.total(0), 0);
        due("collections", x.total(3), 3);
        due("given back", x.total(4), 7);
        due("numbers go on", x.make(0, 0), 3);
        reachedThroughMaps();
        longChain();
        movedTogether();
    }

    private static void reachedThroughMaps() {
        WordHeap x = new WordHeap(5000);
        x.map(0, 2, 2, 1);
        x.make(1, 4);
        text(x, 2, "key");
        x.make(3, 4);
        x.map(4, 1, 0, 0);
        x.make(5, 2);
        x.store(5, 1, 5);
        x.store(1, 0, 2);
        x.store(1, 1, 3);
        x.store(1, 2, 4);
        x.store(1, 3, 5);
        x.put(0, 1);
        for (int r = 1; r < 6; r++) {
            x.nil(r);
        }
        due("only the row", x.collect(), 5);
        x.make(1, 4);
        x.entry(0, 0, 1);
        for (int i = 0; i < 4; i++) {
            x.load(2, 1, i);
            due("word " + i, x.tell(2, 1), new int[] {3, 4, 5, 6}[i]);
        }
        // An exchanged value is not reached any more, and an old table reaches nothing.
        x.nil(2);
        storeNumber(x, 1, 2, 0);
        storeNumber(x, 1, 3, 0);
        x.put(0, 1);
        due("the exchanged ones", x.collect(), 6 + 33 + 3);
        for (int i = 0; i < 8; i++) {
            storeNumber(x, 1, 1, i);
            x.put(0, 1);
        }
        due("the old table", x.collect(), 57);
        x.nil(0);
        due("the map and all it reached", x.collect(), 6 + 16 * 7 + 1 + 5);
    }

    private static void longChain() {
        WordHeap x = new WordHeap(5000);
        x.nil(0);
        for (int i = 0; i < 150; i++) {
            x.make(1, 1);
            x.store(1, 0, 0);
            x.move(0, 1);
        }
        x.nil(1);
        due("a long chain is reached", x.collect(), 0);
        x.nil(0);
        due("and given back", x.collect(), 300);
    }

    /** Objects of all sorts between ones that are given back stay what they are. */
    private static void movedTogether() {
        WordHeap x = new WordHeap(400);
        x.make(9, 7);
        x.make(0, 3);
        storeNumber(x, 0, 0, 42);
        x.text(9, 30);
        text(x, 1, "moved text");
        x.store(0, 1, 1);
        x.make(9, 5);
        x.map(2, 1, 1, 1);
        x.store(0, 2, 2);
        x.make(9, 1);
        x.make(3, 2);
        x.store(3, 0, 1);
        x.store(3, 1, 0);
        x.put(2, 3);
        x.nil(9);
        due("given back", x.collect(), 8 + 5 + 6 + 2);
        due("a number", wordValue(x, 0, 0), 42);
        dueText("a text", x, 1, "moved text");
        x.load(4, 0, 1);
        due("a reference to it", x.same(4, 1), true);
        x.load(4, 0, 2);
        due("a reference to the map", x.same(4, 2), true);
        text(x, 5, "moved text");
        x.store(3, 0, 5);
        due("its key is found", x.get(2, 3), 0);
        x.load(4, 3, 1);
        due("its value", x.same(4, 0), true);
        throwing(UNSUPPORTED, "its text stays", () -> x.setByte(1, 0, 1));
        due("numbers stay", x.tell(3, 1), 8);
    }

    private static void eager() {
        WordHeap x = new WordHeap(5000);
        x.make(0, 0);
        due("at first not", x.total(3), 0);
        x.eager(true);
        due("no collection yet", x.total(3), 0);
        x.make(0, 0);
        x.text(1, 1);
        x.map(2, 1, 0, 0);
        x.join(3, 1, 1);
        x.part(4, 1, 0, 1);
        due("one each", x.total(3), 5);
        due("the first row is given back by the third", x.total(4), 1);
        throwing(ILLEGAL, "make", () -> x.make(0, -1));
        throwing(UNSUPPORTED, "join", () -> x.join(0, 0, 0));
        throwing(OUTSIDE, "part", () -> x.part(0, 1, 0, 2));
        x.compare(1, 1);
        x.copy(0, 0, 0);
        due("none without something made", x.total(3), 5);
        x.eager(true);
        x.eager(false);
        x.make(0, 0);
        due("no more", x.total(3), 5);
        WordHeap y = new WordHeap(64);
        y.make(0, 60);
        y.eager(true);
        throwing(FULL, "make", () -> y.make(1, 10));
        due("only one even when full", y.total(3), 1);
    }

    private static void tell() {
        WordHeap x = new WordHeap(5000);
        x.number(1, 99);
        x.make(2, 7);
        x.shift(2, 2, 4);
        x.text(3, 9);
        x.map(4, 1, 1, 0);
        x.make(5, 2);
        x.put(4, 5);
        int[][] want = {{1, 0, 0, 0, 0}, {0, 0, 0, 0, 0}, {2, 1, 4, 7, 0}, {3, 2, 0, 9, 0}, {4, 3, 0, 1, 8}};
        for (int r = 0; r < 5; r++) {
            for (int what = 0; what < 5; what++) {
                due("tell " + r + " " + what, x.tell(r, what), want[r][what]);
            }
        }
        for (int what : new int[] {-1, 5, Integer.MIN_VALUE, Integer.MAX_VALUE}) {
            throwing(ILLEGAL, "tell " + what, () -> x.tell(2, what));
            throwing(ILLEGAL, "tell of NIL " + what, () -> x.tell(0, what));
        }
        for (int r : NO_REGISTERS) {
            throwing(ILLEGAL, "tell of " + r, () -> x.tell(r, 0));
        }
    }

    private static void value() {
        WordHeap x = new WordHeap(5000);
        x.number(0, -3);
        due("value", x.value(0), -3);
        x.make(1, 1);
        x.text(2, 1);
        x.map(3, 1, 1, 0);
        for (int r = 1; r < 5; r++) {
            int at = r;
            throwing(UNSUPPORTED, "value of " + r, () -> x.value(at));
        }
        for (int r : NO_REGISTERS) {
            throwing(ILLEGAL, "value of " + r, () -> x.value(r));
        }
    }

    private static void same() {
        WordHeap x = new WordHeap(5000);
        x.number(0, 8192);
        x.number(1, 8192);
        x.number(2, 0);
        x.nil(3);
        x.nil(4);
        x.make(5, 2);
        x.make(6, 2);
        x.move(7, 5);
        x.shift(8, 5, 1);
        x.shift(9, 8, -1);
        text(x, 10, "a");
        text(x, 11, "a");
        x.move(12, 10);
        x.map(13, 1, 1, 0);
        x.map(14, 1, 1, 0);
        x.move(15, 13);
        int[] group = {0, 0, 1, 2, 2, 3, 4, 3, 5, 3, 6, 7, 6, 8, 9, 8};
        for (int r = 0; r < 16; r++) {
            for (int s = 0; s < 16; s++) {
                due("same " + r + " " + s, x.same(r, s), group[r] == group[s]);
            }
        }
        for (int r : NO_REGISTERS) {
            throwing(ILLEGAL, "same " + r, () -> x.same(r, 0));
            throwing(ILLEGAL, "same with " + r, () -> x.same(0, r));
        }
    }

    private static void total() {
        WordHeap x = new WordHeap(77);
        x.make(0, 3);
        x.text(0, 3);
        x.map(1, 1, 0, 0);
        int[] want = {4 + 2 + 6 + 33, 77, 3, 0, 0};
        for (int what = 0; what < 5; what++) {
            due("total " + what, x.total(what), want[what]);
        }
        due("collect", x.collect(), 4);
        x.nil(1);
        due("collect", x.collect(), 39);
        due("collect", x.collect(), 0);
        want = new int[] {2, 77, 3, 3, 43};
        for (int what = 0; what < 5; what++) {
            due("total " + what, x.total(what), want[what]);
        }
        for (int what : new int[] {-1, 5, Integer.MIN_VALUE, Integer.MAX_VALUE}) {
            throwing(ILLEGAL, "total " + what, () -> x.total(what));
        }
    }

    public static void main(String[] args) {
        Call[] tests = {PromiseTests::face, PromiseTests::newObject, PromiseTests::number, PromiseTests::nil,
            PromiseTests::move, PromiseTests::make, PromiseTests::texts, PromiseTests::maps, PromiseTests::join,
            PromiseTests::part, PromiseTests::compare, PromiseTests::byteAt, PromiseTests::setByte, PromiseTests::shift,
            PromiseTests::load, PromiseTests::store, PromiseTests::copy, PromiseTests::put, PromiseTests::get,
            PromiseTests::remove, PromiseTests::next, PromiseTests::entry, PromiseTests::collect, PromiseTests::eager,
            PromiseTests::tell, PromiseTests::value, PromiseTests::same, PromiseTests::total};
        for (int i = 0; i < tests.length; i++) {
            promise = i;
            throwing(null, "the test", tests[i]);
        }
        promise = 13;
        throwing(null, "the test", PromiseTests::shiftFails);
        if (wrong > 0) {
            System.exit(1);
        }
        System.out.println(checks + " answers are as due");
    }
}
