import java.util.ArrayList;
import java.util.Arrays;
import java.util.List;
import java.util.Objects;

/** The promises of the document, one method each; the answers due are taken from the document, not from the class. */
public final class PromiseTest {
    private static final Class<? extends RuntimeException> STATE = IllegalStateException.class;
    private static final Class<? extends RuntimeException> INDEX = IndexOutOfBoundsException.class;
    private static final Class<? extends RuntimeException> ARGUMENT = IllegalArgumentException.class;

    private static int asked = 0;
    private static int wrong = 0;
    private static String promise = "";

    private interface Call {
        Object answer();
    }

    // ---- help

    private static void due(String what, Object got, Object want) {
        asked++;
        if (!Objects.equals(got, want)) {
            wrong++;
            System.out.println(promise + ": " + what + " answered " + got + ", due is " + want);
        }
    }

    /** The call throws exactly that class, and nothing that can be asked is changed. */
    private static void fails(LeafBook book, String what, Class<?> want, Call call) {
        List<Object> before = everything(book);
        Object got;
        try {
            got = call.answer();
        } catch (RuntimeException e) {
            got = e.getClass();
        }
        due(what, got, want);
        due(what + " changed nothing", everything(book), before);
    }

    private static Call poking(LeafBook book, int page, int i, long mask) {
        return () -> {
            book.poke(page, i, mask);
            return "nothing";
        };
    }

    private static Call pokingRoot(LeafBook book, int root, int i, long mask) {
        return () -> {
            book.pokeRoot(root, i, mask);
            return "nothing";
        };
    }

    private static Object safely(Call call) {
        try {
            return call.answer();
        } catch (RuntimeException e) {
            return e.getClass();
        }
    }

    private static int pagesOf(LeafBook book) {
        int n = 0;
        while (n < 1000) {
            int page = n;
            if (safely(() -> book.wordAt(page, 0)) instanceof Class) {
                return n;
            }
            n++;
        }
        return n;
    }

    private static List<Object> words(LeafBook book) {
        List<Object> all = new ArrayList<>();
        int pages = pagesOf(book);
        for (int p = 0; p < pages; p++) {
            for (int i = 0; i < 16; i++) {
                all.add(book.wordAt(p, i));
            }
        }
        for (int r = 0; r < 8; r++) {
            for (int i = 0; i < 20; i++) {
                all.add(book.rootAt(r, i));
            }
        }
        return all;
    }

    private static List<Object> everything(LeafBook book) {
        List<Object> all = words(book);
        all.add(safely(book::version));
        all.add(safely(book::free));
        all.add(book.badAt());
        return all;
    }

    private static long sum(long... words) {
        long s = 0;
        for (long w : words) {
            s = Long.rotateLeft(s ^ w, 5) * 0x9E3779B97F4A7C15L;
        }
        return s ^ 1;
    }

    private static long[] page(LeafBook book, int page) {
        long[] w = new long[16];
        for (int i = 0; i < 16; i++) {
            w[i] = book.wordAt(page, i);
        }
        return w;
    }

    private static long[] root(LeafBook book, int root) {
        long[] w = new long[20];
        for (int i = 0; i < 20; i++) {
            w[i] = book.rootAt(root, i);
        }
        return w;
    }

    private static long[] leafOf(long... keysAndValues) {
        long[] w = new long[16];
        w[0] = keysAndValues.length / 2;
        System.arraycopy(keysAndValues, 0, w, 1, keysAndValues.length);
        w[15] = sum(Arrays.copyOf(w, 15));
        return w;
    }

    private static long[] rootOf(long version, long entries, long... leaves) {
        long[] w = new long[20];
        w[0] = version;
        w[1] = leaves.length;
        System.arraycopy(leaves, 0, w, 2, leaves.length);
        w[18] = entries;
        w[19] = sum(Arrays.copyOf(w, 19));
        return w;
    }

    private static void pageIs(LeafBook book, int page, long... want) {
        due("page " + page, Arrays.toString(page(book, page)), Arrays.toString(want));
    }

    private static void rootIs(LeafBook book, int root, long... want) {
        due("root " + root, Arrays.toString(root(book, root)), Arrays.toString(want));
    }

    private static void setPage(LeafBook book, int page, long... want) {
        for (int i = 0; i < 16; i++) {
            long mask = book.wordAt(page, i) ^ want[i];
            if (mask != 0) {
                book.poke(page, i, mask);
            }
        }
    }

    private static void setRoot(LeafBook book, int root, long... want) {
        for (int i = 0; i < 20; i++) {
            long mask = book.rootAt(root, i) ^ want[i];
            if (mask != 0) {
                book.pokeRoot(root, i, mask);
            }
        }
    }

    private static LeafBook with(int pages, int... keys) {
        LeafBook book = new LeafBook(pages);
        for (int key : keys) {
            book.put(key, key * 10L);
        }
        return book;
    }

    private static LeafBook shut(int pages, int... keys) {
        LeafBook book = with(pages, keys);
        book.put(1000000, 1);
        book.crash(0);
        return book;
    }

    private static List<Integer> keys(LeafBook book, int version) {
        List<Integer> all = new ArrayList<>();
        int n = book.count(version, 0);
        for (int k = 0; k < n; k++) {
            all.add(book.key(version, k));
        }
        return all;
    }

    // ---- the promises

    private static void newObject() {
        int[][] sizes = {{Integer.MIN_VALUE, 8}, {-1, 8}, {0, 8}, {7, 8}, {8, 8}, {9, 9}, {40, 40}, {63, 63}, {64, 64},
            {65, 64}, {Integer.MAX_VALUE, 64}};
        for (int[] size : sizes) {
            LeafBook book = new LeafBook(size[0]);
            due("pages of " + size[0], pagesOf(book), size[1]);
            due("free", book.free(), size[1]);
            due("version", book.version(), 0);
            due("badAt", book.badAt(), LeafBook.NONE);
            due("count(0, 0)", book.count(0, 0), 0);
            due("count(0, 1)", book.count(0, 1), 0);
            rootIs(book, 0, rootOf(0, 0));
            due("the sum of nothing", book.rootAt(0, 19), 1L);
            for (int r = 1; r < 8; r++) {
                rootIs(book, r, new long[20]);
            }
            for (int p = 0; p < size[1]; p++) {
                pageIs(book, p, new long[16]);
            }
            fails(book, "crash without an act", STATE, () -> book.crash(0));
            fails(book, "count of version 1", INDEX, () -> book.count(1, 0));
        }
    }

    private static void put() {
        LeafBook book = new LeafBook(64);
        due("put", book.put(50, 500), 1);
        pageIs(book, 0, leafOf(50, 500));
        rootIs(book, 1, rootOf(1, 1, 0));
        due("put in front", book.put(20, -1), 2);
        pageIs(book, 1, leafOf(20, -1, 50, 500));
        pageIs(book, 0, leafOf(50, 500));
        due("the same key anew", book.put(50, Long.MIN_VALUE), 3);
        pageIs(book, 2, leafOf(20, -1, 50, Long.MIN_VALUE));
        rootIs(book, 3, rootOf(3, 2, 2));
        due("the same key and value", book.put(50, Long.MIN_VALUE), 4);
        due("least key", book.put(0, 1), 5);
        due("greatest key", book.put(1000000, 2), 6);
        due("value 0", book.put(30, 0), 7);
        due("six", book.put(40, 4), 8);
        due("seven", book.put(45, 5), 9);
        rootIs(book, 1, rootOf(9, 7, 8));
        due("seven and one of them anew", book.put(45, 6), 10);
        due("leaves", book.count(10, 1), 1);
        due("eight", book.put(25, 25), 11);
        // Version 2's root is gone, so page 1 is FREE again; version 10 took page 0, which was version 1's.
        rootIs(book, 3, rootOf(11, 8, 1, 9));
        pageIs(book, 1, leafOf(0, 1, 20, -1, 25, 25, 30, 0));
        pageIs(book, 9, leafOf(40, 4, 45, 6, 50, Long.MIN_VALUE, 1000000, 2));
        due("behind the first leaf's last", book.put(39, 39), 12);
        due("into the first leaf", book.wordAt((int) book.rootAt(4, 2), 9), 39L);
        due("at a first key", book.put(40, 41), 13);
        due("into the second leaf", book.wordAt((int) book.rootAt(5, 3), 2), 41L);
        due("the other leaf is not copied", book.rootAt(5, 2), book.rootAt(4, 2));
        putSplitsInTheMiddle();
        putBelowAll();
        putWrong();
        putWithoutRoom();
        putWithoutNewest();
    }

    private static void putSplitsInTheMiddle() {
        LeafBook book = with(64, 10, 20, 30, 40, 50, 60, 70, 80, 90, 100, 110, 120);
        due("three leaves", book.count(12, 1), 3);
        long[] was = root(book, 4);
        book.put(51, 1);
        book.put(52, 1);
        book.put(53, 1);
        due("still three", book.count(15, 1), 3);
        book.put(54, 1);
        long[] is = root(book, 0);
        due("four leaves", is[1], 4L);
        due("the first stays", is[2], was[2]);
        due("the last stays", is[5], was[4]);
        due("the first four", keys(book, 16).subList(4, 8), List.of(50, 51, 52, 53));
        pageIs(book, (int) is[3], leafOf(50, 500, 51, 1, 52, 1, 53, 1));
        pageIs(book, (int) is[4], leafOf(54, 1, 60, 600, 70, 700, 80, 800));
        due("the least pages", is[3] < is[4], true);
    }

    private static void putBelowAll() {
        LeafBook book = with(64, 10, 20, 30, 40, 50, 60, 70, 80);
        book.put(5, 5);
        pageIs(book, (int) book.rootAt(1, 2), leafOf(5, 5, 10, 100, 20, 200, 30, 300, 40, 400));
        due("two leaves", book.count(9, 1), 2);
    }

    private static void putWrong() {
        LeafBook book = with(16, 3);
        for (int key : new int[] {-1, 1000001, Integer.MIN_VALUE, Integer.MAX_VALUE}) {
            fails(book, "put of a wrong key", ARGUMENT, () -> book.put(key, 1));
        }
        LeafBook closed = shut(16, 3);
        fails(closed, "put, closed", STATE, () -> closed.put(3, 1));
        fails(closed, "put of a wrong key, closed", STATE, () -> closed.put(-1, 1));
        LeafBook whole = with(16, 3);
        whole.crash(36);
        fails(whole, "put, closed with all words written", STATE, () -> whole.put(4, 1));
        fails(whole, "drop, closed with all words written", STATE, () -> whole.drop(3));
    }

    private static void putWithoutRoom() {
        LeafBook book = with(8, 0, 1, 2, 3, 4, 5, 6);
        due("one page left", book.free(), 1);
        fails(book, "put that needs two pages", STATE, () -> book.put(7, 7));
        fails(book, "put of a wrong key without room", ARGUMENT, () -> book.put(-1, 7));
        // The put that could not be is no ACT: the latest is still version 7's.
        LeafBook again = with(8, 0, 1, 2, 3, 4, 5, 6);
        safely(() -> again.put(7, 7));
        due("crash behind a put that threw", again.crash(0), 36);
        pageIs(again, 6, new long[16]);
        due("reopen", again.reopen(), 6);
        due("one page is enough for one leaf", book.put(6, 66), 8);
        due("none left", book.free(), 0);
        fails(book, "put that needs one page", STATE, () -> book.put(6, 67));
        LeafBook full = new LeafBook(64);
        for (int k = 0; k < 67; k++) {
            full.put(k, k);
        }
        due("sixteen leaves", full.count(67, 1), 16);
        due("pages are left", full.free() > 2, true);
        fails(full, "the seventeenth leaf", STATE, () -> full.put(67, 1));
        fails(full, "wrong key before the seventeenth leaf", ARGUMENT, () -> full.put(1000001, 1));
        due("sixteen leaves, no split", full.put(66, 1), 68);
        due("into another leaf", full.put(2, 1), 69);
    }

    private static void putWithoutNewest() {
        LeafBook book = with(16, 3, 4);
        book.poke(1, 2, 1);
        fails(book, "put, NEWEST not KEPT", STATE, () -> book.put(5, 5));
        fails(book, "put of a wrong key, NEWEST not KEPT", STATE, () -> book.put(-1, 5));
        book.poke(1, 2, 1);
        book.pokeRoot(2, 0, 8);
        fails(book, "put, NEWEST not told", STATE, () -> book.put(5, 5));
        book.pokeRoot(2, 0, 8);
        due("put, mended", book.put(5, 5), 3);
    }

    private static void drop() {
        LeafBook book = with(16, 10, 20, 30);
        due("no such key", book.drop(15), 0);
        due("no act", book.version(), 3);
        due("drop", book.drop(20), 4);
        pageIs(book, 3, leafOf(10, 100, 30, 300));
        rootIs(book, 4, rootOf(4, 2, 3));
        due("drop the first", book.drop(10), 5);
        due("drop the last", book.drop(30), 6);
        rootIs(book, 6, rootOf(6, 0));
        due("no page taken", book.free(), 16 - 5);
        due("drop of none", book.drop(30), 0);
        due("put after all went", book.put(1, 1), 7);
        rootIs(book, 7, rootOf(7, 1, 5));
        LeafBook empty = new LeafBook(8);
        due("drop in an empty book", empty.drop(0), 0);
        due("it makes no version", empty.version(), 0);
        dropLeaves();
        dropWrong();
    }

    private static void dropLeaves() {
        LeafBook book = with(64, 10, 20, 30, 40, 50, 60, 70, 80, 90, 100, 110, 120);
        long[] was = root(book, 4);
        book.drop(50);
        book.drop(60);
        book.drop(70);
        due("three leaves", book.count(15, 1), 3);
        due("the last of a leaf", book.drop(80), 16);
        rootIs(book, 0, rootOf(16, 8, was[2], was[4]));
        due("words of that", book.crash(100), 20);
        book.reopen();
        // Roots are used again: what an older version had behind the leaves must not stay.
        for (int key : new int[] {10, 20, 30, 40, 90, 100, 110}) {
            book.drop(key);
        }
        book.put(120, 1);
        rootIs(book, 0, rootOf(24, 1, book.rootAt(0, 2)));
        due("one leaf", book.count(24, 1), 1);
    }

    private static void dropWrong() {
        LeafBook book = with(8, 0, 1, 2, 3, 4, 5, 6);
        book.put(6, 7);
        due("no page left", book.free(), 0);
        fails(book, "drop without room", STATE, () -> book.drop(3));
        due("no such key without room", book.drop(300), 0);
        for (int key : new int[] {-1, 1000001, Integer.MIN_VALUE, Integer.MAX_VALUE}) {
            fails(book, "drop of a wrong key", ARGUMENT, () -> book.drop(key));
        }
        LeafBook one = new LeafBook(8);
        one.put(1, 1);
        for (int k = 0; k < 7; k++) {
            one.put(1, k);
        }
        due("no page left", one.free(), 0);
        due("a leaf that goes needs no page", one.drop(1), 9);
        LeafBook closed = shut(16, 3);
        fails(closed, "drop, closed", STATE, () -> closed.drop(3));
        fails(closed, "drop of a wrong key, closed", STATE, () -> closed.drop(-1));
        LeafBook bad = with(16, 3, 4);
        bad.pokeRoot(2, 19, 1);
        fails(bad, "drop, NEWEST not KEPT", STATE, () -> bad.drop(3));
        fails(bad, "drop of no key there, NEWEST not KEPT", STATE, () -> bad.drop(5));
        fails(bad, "drop of a wrong key, NEWEST not KEPT", STATE, () -> bad.drop(-1));
    }

    private static void version() {
        LeafBook book = with(16, 3, 4);
        due("version", book.version(), 2);
        book.pokeRoot(2, 0, 1);
        due("version, not KEPT", book.version(), 2);
        LeafBook closed = shut(16, 3);
        fails(closed, "version, closed", STATE, closed::version);
        closed.reopen();
        due("version, opened", closed.version(), 1);
    }

    private static void has() {
        LeafBook book = with(64, 10, 20, 30, 40, 50, 60, 70, 80, 90);
        for (int key : new int[] {10, 40, 50, 90}) {
            due("has " + key, book.has(9, key), true);
        }
        for (int key : new int[] {0, 9, 11, 45, 91, 1000000, -1, 1000001, Integer.MIN_VALUE, Integer.MAX_VALUE}) {
            due("has " + key, book.has(9, key), false);
        }
        due("an older version", book.has(8, 90), false);
        notKept(book, 9, (b, v) -> () -> b.has(v, 10));
    }

    private static void find() {
        LeafBook book = with(64, 10, 20, 30, 40, 50, 60, 70, 80);
        book.put(50, -7);
        due("find", book.find(9, 50), -7L);
        due("find in the older", book.find(8, 50), 500L);
        due("find the last", book.find(9, 80), 800L);
        for (int key : new int[] {0, 9, 11, 45, 91, 1000000, -1, 1000001, Integer.MIN_VALUE, Integer.MAX_VALUE}) {
            due("find " + key, book.find(9, key), 0L);
        }
        notKept(book, 9, (b, v) -> () -> b.find(v, 10));
    }

    private interface OfVersion {
        Call of(LeafBook book, int version);
    }

    /** The versions NEWEST - 7 .. NEWEST are KEPT, and no others. */
    private static void notKept(LeafBook book, int newest, OfVersion call) {
        for (int v : new int[] {newest + 1, newest - 8, newest - 16, newest + 8, -1, -8, Integer.MIN_VALUE,
            Integer.MAX_VALUE}) {
            fails(book, "version " + v, INDEX, call.of(book, v));
        }
        for (int v = newest - 7; v <= newest; v++) {
            due("version " + v + " is KEPT", safely(call.of(book, v)) instanceof Class, false);
        }
        int page = (int) book.rootAt(newest % 8, 2);
        book.poke(page, 15, 4);
        fails(book, "a page not RIGHT", INDEX, call.of(book, newest));
        book.poke(page, 15, 4);
        book.pokeRoot(newest % 8, 17, 4);
        fails(book, "a root not RIGHT", INDEX, call.of(book, newest));
        due("another version is KEPT", safely(call.of(book, newest - 1)) instanceof Class, false);
        book.pokeRoot(newest % 8, 17, 4);
        book.put(0, 0);
        book.crash(0);
        fails(book, "closed", STATE, call.of(book, newest));
        fails(book, "closed, no such version", STATE, call.of(book, newest + 5));
        book.reopen();
        due("opened", safely(call.of(book, newest)) instanceof Class, false);
    }

    private static void count() {
        LeafBook book = with(64, 10, 20, 30, 40, 50, 60, 70, 80);
        due("entries", book.count(8, 0), 8);
        due("leaves", book.count(8, 1), 2);
        due("entries of 7", book.count(7, 0), 7);
        due("leaves of 7", book.count(7, 1), 1);
        for (int what : new int[] {-1, 2, Integer.MIN_VALUE, Integer.MAX_VALUE}) {
            fails(book, "count of another", ARGUMENT, () -> book.count(8, what));
            fails(book, "count of another in no version", INDEX, () -> book.count(9, what));
        }
        book.put(80, 1);
        notKept(book, 9, (b, v) -> () -> b.count(v, 0));
        LeafBook closed = shut(16, 3);
        fails(closed, "count of another, closed", STATE, () -> closed.count(9, 2));
    }

    private static void key() {
        LeafBook book = with(64, 80, 10, 70, 20, 60, 30, 50, 40, 45);
        due("keys", keys(book, 9), List.of(10, 20, 30, 40, 45, 50, 60, 70, 80));
        due("keys before", keys(book, 3), List.of(10, 70, 80));
        for (int k : new int[] {-1, 9, Integer.MIN_VALUE, Integer.MAX_VALUE}) {
            fails(book, "no such entry", INDEX, () -> book.key(9, k));
        }
        notKept(book, 9, (b, v) -> () -> b.key(v, 0));
        LeafBook empty = new LeafBook(8);
        fails(empty, "key of nothing", INDEX, () -> empty.key(0, 0));
    }

    private static void same() {
        LeafBook book = with(64, 10, 20);
        book.put(10, 100);
        due("the same put again", book.same(2, 3), true);
        due("more", book.same(1, 3), false);
        due("fewer", book.same(3, 1), false);
        book.put(10, 101);
        due("another value", book.same(3, 4), false);
        book.put(10, 100);
        due("the old value again", book.same(3, 5), true);
        book.drop(20);
        book.put(21, 200);
        due("another key", book.same(5, 7), false);
        due("itself", book.same(7, 7), true);
        due("nothing and something", book.same(0, 7), false);
        notKept(with(64, 1, 2, 3, 4, 5, 6, 7, 8, 9), 9, (b, v) -> () -> b.same(v, 3));
        notKept(with(64, 1, 2, 3, 4, 5, 6, 7, 8, 9), 9, (b, v) -> () -> b.same(3, v));
        sameInOtherLeaves();
    }

    private static void sameInOtherLeaves() {
        LeafBook book = with(64, 10, 20, 30, 40, 50, 60, 70);
        book.put(80, 1);
        book.drop(80);
        due("leaves of 7", book.count(7, 1), 1);
        due("leaves of 9", book.count(9, 1), 2);
        due("leaves do not matter", book.same(7, 9), true);
        book.put(70, 1);
        due("the last value does", book.same(7, 10), false);
    }

    private static void free() {
        LeafBook book = new LeafBook(10);
        due("free", book.free(), 10);
        for (int v = 1; v <= 8; v++) {
            book.put(1, v);
            due("free at " + v, book.free(), 10 - v);
        }
        book.put(1, 9);
        due("eight versions, a page each", book.free(), 2);
        book.pokeRoot(1, 18, 1);
        due("a root that is SOUND, not RIGHT", book.free(), 2);
        book.pokeRoot(1, 2, 1L << 40);
        due("a root that is not SOUND", book.free(), 3);
        book.pokeRoot(1, 2, 1L << 40);
        book.pokeRoot(1, 0, 1L << 50);
        due("a root above NEWEST", book.free(), 3);
        book.pokeRoot(1, 0, 1L << 50);
        book.pokeRoot(1, 0, -1L);
        due("a root with a VERSION below 0", book.free(), 2);
        book.pokeRoot(1, 0, -1L);
        book.pokeRoot(1, 3, 9);
        due("a word behind the leaves", book.free(), 2);
        book.pokeRoot(1, 1, 3);
        due("two leaves then", book.free(), 1);
        LeafBook closed = shut(16, 3);
        fails(closed, "free, closed", STATE, closed::free);
        soundRoots();
    }

    private static void soundRoots() {
        LeafBook book = with(8, 5);
        book.pokeRoot(1, 1, 1 ^ 16);
        for (int k = 0; k < 16; k++) {
            book.pokeRoot(1, 2 + k, book.rootAt(1, 2 + k) ^ (k % 8) ^ 0x100);
            book.pokeRoot(1, 2 + k, 0x100);
        }
        due("sixteen leaves are SOUND", book.free(), 0);
        book.pokeRoot(1, 1, 1);
        due("seventeen are not", book.free(), 8);
        book.pokeRoot(1, 1, 17 ^ -1L);
        due("-1 are not", book.free(), 8);
        book.pokeRoot(1, 1, -1L ^ 8);
        due("eight are", book.free(), 0);
        book.pokeRoot(1, 9, 7 ^ 8);
        due("page 8 of eight is none", book.free(), 8);
        book.pokeRoot(1, 9, 8 ^ -1L);
        due("page -1 is none", book.free(), 8);
        book.pokeRoot(1, 1, 8 ^ 7);
        due("seven", book.free(), 1);
    }

    private static void crash() {
        for (int k = 0; k <= 60; k++) {
            cut(k, 36, 7, 0);
            cut(k, 52, 8, 0);
            cut(k, 20, 1, 1);
        }
        cut(Integer.MAX_VALUE, 52, 8, 0);
        LeafBook book = with(16, 1, 2);
        fails(book, "k below 0", ARGUMENT, () -> book.crash(-1));
        fails(book, "k far below 0", ARGUMENT, () -> book.crash(Integer.MIN_VALUE));
        due("drop of no key is no act", book.drop(9), 0);
        due("crash of the latest", book.crash(7), 36);
        fails(book, "closed", STATE, () -> book.crash(1));
        fails(book, "k below 0, closed", STATE, () -> book.crash(-1));
        book.reopen();
        fails(book, "no act since it was OPENED", STATE, () -> book.crash(1));
        fails(book, "k below 0, no act", STATE, () -> book.crash(-1));
        book.put(3, 3);
        book.reopen();
        fails(book, "no act since it was OPENED though open", STATE, () -> book.crash(1));
        crashAfterPoke();
    }

    private static void crashAfterPoke() {
        LeafBook book = with(16, 1, 2);
        safely(poking(book, 0, 3, 0));
        safely(pokingRoot(book, 9, 3, 1));
        due("a poke that throws alters nothing", book.crash(99), 36);
        book.reopen();
        book.put(3, 3);
        book.poke(15, 3, 1);
        fails(book, "a word was altered", STATE, () -> book.crash(1));
        fails(book, "k below 0, a word was altered", STATE, () -> book.crash(-1));
        book.poke(15, 3, 1);
        fails(book, "a word was altered and back", STATE, () -> book.crash(1));
        book.put(4, 4);
        due("altered before that act", book.crash(1), 36);
        book.reopen();
        book.put(4, 4);
        book.pokeRoot(7, 19, 1);
        fails(book, "a root's word was altered", STATE, () -> book.crash(1));
        book.drop(77);
        fails(book, "still", STATE, () -> book.crash(1));
    }

    /** Keys 1 .. n are put; if it is to be a drop, the last is dropped then. The latest act is cut at k. */
    private static void cut(int k, int total, int n, int drops) {
        LeafBook book = new LeafBook(16);
        // Something else stands on the pages before, so that what was before can be told from 0.
        for (int p = 0; p < 16; p++) {
            for (int i = 0; i < 16; i++) {
                book.poke(p, i, 1000 + 16 * p + i);
            }
        }
        for (int key = 1; key < n; key++) {
            book.put(key, key);
        }
        if (drops == 1) {
            book.put(n, n);
        }
        List<Object> before = words(book);
        List<Integer> order = order(book, total, drops == 1 ? n + 1 : n);
        due("the act", drops == 1 ? book.drop(n) : book.put(n, n), n + drops);
        List<Object> after = words(book);
        due("crash(" + k + ")", book.crash(k), total);
        List<Object> want = new ArrayList<>(before);
        for (int j = 0; j < Math.min(k, total); j++) {
            want.set(order.get(j), after.get(order.get(j)));
        }
        due("the words cut at " + k + " of " + total, words(book), want);
        int back = k >= total ? n + drops : n + drops - 1;
        due("reopen", book.reopen(), back);
        due("version", book.version(), back);
    }

    /** Where the words of the next act stand in the list that words() makes. */
    private static List<Integer> order(LeafBook book, int total, int version) {
        List<Integer> all = new ArrayList<>();
        int free = version - 1;
        for (int page = free; page < free + (total - 20) / 16; page++) {
            for (int i = 0; i < 16; i++) {
                all.add(page * 16 + i);
            }
        }
        for (int i = 0; i < 20; i++) {
            all.add(16 * 16 + (version % 8) * 20 + i);
        }
        return all;
    }

    private static void reopen() {
        LeafBook book = with(16, 1, 2, 3, 4, 5, 6, 7, 8, 9);
        List<Object> before = everything(book);
        due("reopen, open", book.reopen(), 9);
        due("reopen changes no word", everything(book), before);
        book.poke((int) book.rootAt(1, 2), 2, 1);
        // Both 8 and 9 have the leaf 1 .. 4; 7 has another.
        due("the newest that is whole", book.reopen(), 7);
        due("version", book.version(), 7);
        fails(book, "8 is above NEWEST", INDEX, () -> book.count(8, 0));
        due("put makes 8 anew", book.put(100, 1), 8);
        due("all of 7 and one more", keys(book, 8), List.of(1, 2, 3, 4, 5, 6, 7, 100));
        reopenAtCraftedRoots();
        reopenAtNothing();
        rightPages();
        rightRoots();
    }

    private static void reopenAtCraftedRoots() {
        LeafBook book = with(16, 1, 2);
        setRoot(book, 3, rootOf(1000000003L, 1, 0));
        due("a version above the greatest", book.reopen(), 2);
        setRoot(book, 0, rootOf(1000000000L, 1, 0));
        due("the greatest version", book.reopen(), 1000000000);
        due("an act behind it", book.put(9, 9), 1000000001);
        due("its keys", keys(book, 1000000001), List.of(1, 9));
        due("it is not found anew", book.reopen(), 1000000000);
        setRoot(book, 0, rootOf(1000000007L - 8, 1, 0));
        due("not where it should stand", book.reopen(), 2);
        setRoot(book, 0, rootOf(8L + (1L << 32), 1, 0));
        due("a version that no int holds", book.reopen(), 2);
        setRoot(book, 0, rootOf(-8, 1, 0));
        due("a version below 0", book.reopen(), 2);
        setRoot(book, 6, rootOf(14, 1, 0));
        due("a gap", book.reopen(), 14);
        due("2 is KEPT still", keys(book, 2), List.of(1, 2));
        setRoot(book, 6, rootOf(Long.MIN_VALUE + 6, 1, 0));
        due("far below 0", book.reopen(), 2);
    }

    private static void reopenAtNothing() {
        LeafBook book = with(16, 1, 2, 3, 4, 5, 6, 7, 8, 9);
        for (int r = 0; r < 8; r++) {
            book.pokeRoot(r, 19, 2);
        }
        List<Object> before = words(book);
        due("no root is RIGHT", book.reopen(), 0);
        rootIs(book, 0, rootOf(0, 0));
        setRoot(book, 0, new long[20]);
        for (int i = 0; i < 20; i++) {
            before.set(16 * 16 + i, 0L);
        }
        due("no other word is altered", words(book), before);
        due("reopen of a blank root 0", book.reopen(), 0);
        rootIs(book, 0, rootOf(0, 0));
        due("all is FREE", book.free(), 16);
        due("nothing is in it", book.count(0, 0), 0);
        due("put", book.put(4, 4), 1);
        LeafBook closed = shut(8);
        closed.pokeRoot(0, 5, 1);
        due("closed, no root is RIGHT", closed.reopen(), 0);
        due("it is open", closed.put(1, 1), 1);
    }

    /** What makes a page RIGHT, seen by whether the version that has it is found. */
    private static void rightPages() {
        LeafBook book = with(16, 1, 2);
        long[][] right = {leafOf(0, 9), leafOf(1000000, 9), leafOf(0, 1, 1000000, 1),
            leafOf(1, 0, 2, 0, 3, 0, 4, 0, 5, 0, 6, 0, 7, 0)};
        for (long[] page : right) {
            setPage(book, 9, page);
            setRoot(book, 4, rootOf(4, page[0], 9));
            due("right " + Arrays.toString(page), book.reopen(), 4);
        }
        long[] behind = leafOf(3, 3);
        behind[14] = 5;
        behind[15] = sum(Arrays.copyOf(behind, 15));
        setPage(book, 9, behind);
        setRoot(book, 4, rootOf(4, 1, 9));
        due("a word behind the entries", book.reopen(), 4);
        book.put(4, 4);
        pageIs(book, (int) book.rootAt(5, 2), leafOf(3, 3, 4, 4));
        long[] eight = leafOf(1, 0, 2, 0, 3, 0, 4, 0, 5, 0, 6, 0, 7, 0);
        eight[0] = 8;
        eight[15] = sum(Arrays.copyOf(eight, 15));
        long[] below = leafOf(1, 0);
        below[0] = -1;
        below[15] = sum(Arrays.copyOf(below, 15));
        long[] badSum = leafOf(1, 0);
        badSum[15] ^= 1L << 63;
        long[][] bad = {leafOf(-1, 9), leafOf(1000001, 9), leafOf(5, 1, 5, 1), leafOf(5, 1, 4, 1), leafOf(1L << 32, 0),
            leafOf(), eight, below, badSum};
        book = with(16, 1, 2);
        for (long[] page : bad) {
            setPage(book, 9, page);
            setRoot(book, 4, rootOf(4, page[0], 9));
            due("bad " + Arrays.toString(page), book.reopen(), 2);
        }
    }

    private static void rightRoots() {
        LeafBook book = with(16, 1, 2);
        setPage(book, 9, leafOf(10, 1, 20, 2));
        setPage(book, 10, leafOf(21, 3));
        setPage(book, 11, leafOf());
        setPage(book, 12, leafOf(20, 3));
        setRoot(book, 4, rootOf(4, 3, 9, 10));
        due("two leaves", book.reopen(), 4);
        due("its keys", keys(book, 4), List.of(10, 20, 21));
        long[] behind = rootOf(4, 3, 9, 10);
        behind[17] = 99;
        behind[19] = sum(Arrays.copyOf(behind, 19));
        setRoot(book, 4, behind);
        due("a word behind the leaves", book.reopen(), 4);
        long[] seventeen = rootOf(4, 0);
        seventeen[1] = 17;
        seventeen[19] = sum(Arrays.copyOf(seventeen, 19));
        long[] below = rootOf(4, 0);
        below[1] = -1;
        below[19] = sum(Arrays.copyOf(below, 19));
        long[] badSum = rootOf(4, 3, 9, 10);
        badSum[19] ^= 1;
        long[][] bad = {rootOf(4, 2, 9, 10), rootOf(4, 4, 9, 10), rootOf(4, 3, 10, 9), rootOf(4, 4, 9, 9),
            rootOf(4, 3, 9, 12), rootOf(4, 2, 9, 11), rootOf(4, 1, 16), rootOf(4, 1, -1), rootOf(4, 2, 9 + (1L << 32)),
            rootOf(4, 2 + (1L << 32), 9), seventeen, below, badSum};
        for (long[] root : bad) {
            setRoot(book, 4, root);
            due("bad " + Arrays.toString(root), book.reopen(), 2);
        }
        setRoot(book, 4, rootOf(4, 0));
        due("no leaves", book.reopen(), 4);
    }

    private static void wordAt() {
        LeafBook book = with(9, 7);
        due("word 0", book.wordAt(0, 0), 1L);
        due("word 1", book.wordAt(0, 1), 7L);
        due("word 2", book.wordAt(0, 2), 70L);
        due("word 15", book.wordAt(0, 15), leafOf(7, 70)[15]);
        due("the last", book.wordAt(8, 15), 0L);
        int[][] wrongs = {{-1, 0}, {9, 0}, {0, -1}, {0, 16}, {Integer.MIN_VALUE, 0}, {Integer.MAX_VALUE, 0},
            {0, Integer.MIN_VALUE}, {0, Integer.MAX_VALUE}, {1 << 28, 0}};
        for (int[] w : wrongs) {
            fails(book, "wordAt" + Arrays.toString(w), INDEX, () -> book.wordAt(w[0], w[1]));
        }
        book.crash(1);
        due("word 0, closed", book.wordAt(0, 0), 1L);
        due("word 1, closed", book.wordAt(0, 1), 0L);
        fails(book, "no such page, closed", INDEX, () -> book.wordAt(9, 0));
    }

    private static void rootAt() {
        LeafBook book = with(9, 7);
        due("word 0", book.rootAt(1, 0), 1L);
        due("word 18", book.rootAt(1, 18), 1L);
        due("word 19", book.rootAt(1, 19), rootOf(1, 1, 0)[19]);
        due("the last", book.rootAt(7, 19), 0L);
        int[][] wrongs = {{-1, 0}, {8, 0}, {0, -1}, {0, 20}, {Integer.MIN_VALUE, 0}, {Integer.MAX_VALUE, 0},
            {0, Integer.MIN_VALUE}, {0, Integer.MAX_VALUE}, {1 << 30, 0}};
        for (int[] w : wrongs) {
            fails(book, "rootAt" + Arrays.toString(w), INDEX, () -> book.rootAt(w[0], w[1]));
        }
        book.crash(17);
        due("word 0, closed", book.rootAt(1, 0), 1L);
        due("word 1, closed", book.rootAt(1, 1), 0L);
        fails(book, "no such root, closed", INDEX, () -> book.rootAt(8, 0));
    }

    private static void poke() {
        LeafBook book = with(9, 7);
        book.poke(0, 2, 1);
        due("altered", book.wordAt(0, 2), 71L);
        book.poke(0, 2, Long.MIN_VALUE);
        due("altered again", book.wordAt(0, 2), 71L ^ Long.MIN_VALUE);
        book.poke(8, 15, -1);
        due("the last word", book.wordAt(8, 15), -1L);
        int[][] wrongs = {{-1, 0}, {9, 0}, {0, -1}, {0, 16}, {Integer.MIN_VALUE, 0}, {Integer.MAX_VALUE, 0},
            {0, Integer.MIN_VALUE}, {0, Integer.MAX_VALUE}};
        for (int[] w : wrongs) {
            fails(book, "poke" + Arrays.toString(w), INDEX, poking(book, w[0], w[1], 1));
            fails(book, "poke with 0" + Arrays.toString(w), INDEX, poking(book, w[0], w[1], 0));
        }
        fails(book, "mask 0", ARGUMENT, poking(book, 0, 0, 0));
        LeafBook closed = shut(8, 3);
        closed.poke(0, 15, 1);
        due("poke, closed", closed.wordAt(0, 15), leafOf(3, 30)[15] ^ 1);
        due("it is told", closed.badAt(), 0);
    }

    private static void pokeRoot() {
        LeafBook book = with(9, 7);
        book.pokeRoot(1, 2, 6);
        due("altered", book.rootAt(1, 2), 6L);
        book.pokeRoot(1, 2, 6);
        due("and back", book.rootAt(1, 2), 0L);
        due("KEPT again", book.has(1, 7), true);
        book.pokeRoot(7, 19, -1);
        due("the last word", book.rootAt(7, 19), -1L);
        int[][] wrongs = {{-1, 0}, {8, 0}, {0, -1}, {0, 20}, {Integer.MIN_VALUE, 0}, {Integer.MAX_VALUE, 0},
            {0, Integer.MIN_VALUE}, {0, Integer.MAX_VALUE}};
        for (int[] w : wrongs) {
            fails(book, "pokeRoot" + Arrays.toString(w), INDEX, pokingRoot(book, w[0], w[1], 1));
            fails(book, "pokeRoot with 0" + Arrays.toString(w), INDEX, pokingRoot(book, w[0], w[1], 0));
        }
        fails(book, "mask 0", ARGUMENT, pokingRoot(book, 0, 0, 0));
        LeafBook closed = shut(8, 3);
        closed.pokeRoot(1, 18, 1);
        due("it is told, closed", closed.badAt(), 101);
    }

    private static void badAt() {
        LeafBook book = with(16, 1, 2, 3);
        due("nothing", book.badAt(), LeafBook.NONE);
        book.poke(9, 3, 1);
        due("a FREE page", book.badAt(), LeafBook.NONE);
        book.pokeRoot(3, 19, 1);
        due("a root", book.badAt(), 103);
        book.pokeRoot(0, 19, 1);
        due("a root whose words are all 0", book.badAt(), 103);
        book.pokeRoot(0, 19, 2);
        due("such a root whose word 19 is not its SUM", book.badAt(), 103);
        book.pokeRoot(2, 18, 1);
        due("the first of two roots", book.badAt(), 102);
        book.poke(2, 0, 2);
        due("a page before the roots", book.badAt(), 2);
        book.poke(1, 3, 1);
        due("the first of two pages", book.badAt(), 1);
        book.pokeRoot(2, 1, 32);
        due("of a root that is not SOUND", book.badAt(), 2);
        book.poke(2, 0, 2);
        due("the root itself", book.badAt(), 102);
        book.pokeRoot(2, 1, 32);
        book.pokeRoot(2, 0, 2 ^ 4);
        due("of a root above NEWEST", book.badAt(), 102);
        setRoot(book, 2, new long[20]);
        book.pokeRoot(2, 18, 1);
        due("word 18 alone", book.badAt(), 102);
        setRoot(book, 2, new long[20]);
        book.pokeRoot(2, 0, 1);
        due("word 0 alone", book.badAt(), 102);
        setRoot(book, 2, new long[20]);
        setRoot(book, 3, rootOf(77, 5, 1));
        due("a root with its sum, not RIGHT", book.badAt(), LeafBook.NONE);
        setPage(book, 0, leafOf());
        due("a page with no entries is RIGHT", book.badAt(), LeafBook.NONE);
        setPage(book, 0, leafOf(3, 3, 3, 3));
        due("a page with its sum, not RIGHT", book.badAt(), 0);
        badAtWhileClosed();
    }

    /** A cut leaves NEWEST as the act made it: the document says nothing else, and opening settles it. */
    private static void badAtWhileClosed() {
        LeafBook book = new LeafBook(16);
        for (int v = 1; v <= 8; v++) {
            book.put(1, v);
        }
        book.poke(0, 2, 1);
        due("the page of version 1", book.badAt(), 0);
        book.put(1, 9);
        due("no root has it", book.badAt(), LeafBook.NONE);
        book.crash(17);
        due("version 9 with the leaf of 1", book.badAt(), 0);
        book.reopen();
        due("9 is above NEWEST", book.badAt(), 101);
    }

    public static void main(String[] args) {
        Runnable[] all = {PromiseTest::newObject, PromiseTest::put, PromiseTest::drop, PromiseTest::version,
            PromiseTest::has, PromiseTest::find, PromiseTest::count, PromiseTest::key, PromiseTest::same,
            PromiseTest::free, PromiseTest::crash, PromiseTest::reopen, PromiseTest::wordAt, PromiseTest::rootAt,
            PromiseTest::poke, PromiseTest::pokeRoot, PromiseTest::badAt};
        for (int i = 0; i < all.length; i++) {
            promise = "promise " + (i + 1);
            all[i].run();
        }
        System.out.println(asked + " answers, " + wrong + " not as due");
        if (wrong != 0) {
            System.exit(1);
        }
    }
}
