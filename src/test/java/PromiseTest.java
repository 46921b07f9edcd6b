import java.util.Arrays;
import java.util.List;

/** The promises of the document, one test each; the answers due are taken from the document, not from the class. */
public final class PromiseTest extends Check {
    public static void main(String[] args) {
        run(PromiseTest.class);
    }

    @Says("Promise 1")
    static void newObject() {
        int[][] sizes = {{Integer.MIN_VALUE, 8}, {-1, 8}, {0, 8}, {7, 8}, {8, 8}, {9, 9}, {40, 40}, {63, 63}, {64, 64},
            {65, 64}, {Integer.MAX_VALUE, 64}};
        for (int[] size : sizes) {
            Book book = new Book(size[0]);
            due("the last page of " + size[0], book.wordAt(size[1] - 1, 15), 0);
            due("no page more of " + size[0], answer(() -> book.wordAt(size[1], 0)), INDEX);
            due("free", book.free(), size[1]);
            due("version", book.version(), 0);
            due("badAt", book.badAt(), LeafBook.NONE);
            due("count(0, 0)", book.count(0, 0), 0);
            due("count(0, 1)", book.count(0, 1), 0);
            rootIs(book, 0, Words.root(0, 0));
            due("the sum of nothing", book.rootAt(0, 19), 1L);
            for (int r = 1; r < 8; r++) {
                rootIs(book, r, new long[20]);
            }
            for (int p = 0; p < size[1]; p++) {
                pageIs(book, p, new long[16]);
            }
            refused(book, "crash without an act", STATE, () -> book.crash(0));
            refused(book, "count of version 1", INDEX, () -> book.count(1, 0));
        }
    }

    @Says("Promise 2")
    static void put() {
        Book book = new Book(64);
        due("put", book.put(50, 500), 1);
        pageIs(book, 0, Words.leaf(50, 500));
        rootIs(book, 1, Words.root(1, 1, 0));
        due("put in front", book.put(20, -1), 2);
        pageIs(book, 1, Words.leaf(20, -1, 50, 500));
        pageIs(book, 0, Words.leaf(50, 500));
        due("the same key anew", book.put(50, Long.MIN_VALUE), 3);
        pageIs(book, 2, Words.leaf(20, -1, 50, Long.MIN_VALUE));
        rootIs(book, 3, Words.root(3, 2, 2));
        due("the same key and value", book.put(50, Long.MIN_VALUE), 4);
        due("least key", book.put(0, 1), 5);
        due("greatest key", book.put(1000000, 2), 6);
        due("value 0", book.put(30, 0), 7);
        due("six", book.put(40, 4), 8);
        due("seven", book.put(45, 5), 9);
        rootIs(book, 1, Words.root(9, 7, 8));
        due("seven and one of them anew", book.put(45, 6), 10);
        due("leaves", book.count(10, 1), 1);
        due("eight", book.put(25, 25), 11);
        // Version 2's root is gone, so page 1 is FREE again; version 10 took page 0, which was version 1's.
        rootIs(book, 3, Words.root(11, 8, 1, 9));
        pageIs(book, 1, Words.leaf(0, 1, 20, -1, 25, 25, 30, 0));
        pageIs(book, 9, Words.leaf(40, 4, 45, 6, 50, Long.MIN_VALUE, 1000000, 2));
        due("behind the first leaf's last", book.put(39, 39), 12);
        due("into the first leaf", book.wordAt((int) book.rootAt(4, 2), 9), 39L);
        due("at a first key", book.put(40, 41), 13);
        due("into the second leaf", book.wordAt((int) book.rootAt(5, 3), 2), 41L);
        due("the other leaf is not copied", book.rootAt(5, 2), book.rootAt(4, 2));
        putSplitsInTheMiddle();
        putBelowAll();
        putWrong();
        putWithoutRoom();
        putWithoutNewest();
    }

    private static void putSplitsInTheMiddle() {
        Book book = Book.of(64, 10, 20, 30, 40, 50, 60, 70, 80, 90, 100, 110, 120);
        due("three leaves", book.count(12, 1), 3);
        long[] was = book.root(4);
        book.put(51, 1);
        book.put(52, 1);
        book.put(53, 1);
        due("still three", book.count(15, 1), 3);
        book.put(54, 1);
        long[] is = book.root(0);
        due("four leaves", is[1], 4L);
        due("the first stays", is[2], was[2]);
        due("the last stays", is[5], was[4]);
        due("the first four", book.keys(16).subList(4, 8), List.of(50, 51, 52, 53));
        pageIs(book, (int) is[3], Words.leaf(50, 500, 51, 1, 52, 1, 53, 1));
        pageIs(book, (int) is[4], Words.leaf(54, 1, 60, 600, 70, 700, 80, 800));
        due("the least pages", is[3] < is[4], true);
    }

    private static void putBelowAll() {
        Book book = Book.of(64, 10, 20, 30, 40, 50, 60, 70, 80);
        book.put(5, 5);
        pageIs(book, (int) book.rootAt(1, 2), Words.leaf(5, 5, 10, 100, 20, 200, 30, 300, 40, 400));
        due("two leaves", book.count(9, 1), 2);
    }

    private static void putWrong() {
        Book book = Book.of(16, 3);
        for (int key : new int[] {-1, 1000001, Integer.MIN_VALUE, Integer.MAX_VALUE}) {
            refused(book, "put of a wrong key", ARGUMENT, () -> book.put(key, 1));
        }
        Book closed = Book.closed(16, 3);
        refused(closed, "put, closed", STATE, () -> closed.put(3, 1));
        refused(closed, "put of a wrong key, closed", STATE, () -> closed.put(-1, 1));
        Book whole = Book.of(16, 3);
        whole.crash(36);
        refused(whole, "put, closed with all words written", STATE, () -> whole.put(4, 1));
        refused(whole, "drop, closed with all words written", STATE, () -> whole.drop(3));
    }

    private static void putWithoutRoom() {
        Book book = Book.of(8, 0, 1, 2, 3, 4, 5, 6);
        due("one page left", book.free(), 1);
        refused(book, "put that needs two pages", STATE, () -> book.put(7, 7));
        refused(book, "put of a wrong key without room", ARGUMENT, () -> book.put(-1, 7));
        // The put that could not be is no ACT: the latest is still version 7's.
        Book again = Book.of(8, 0, 1, 2, 3, 4, 5, 6);
        answer(() -> again.put(7, 7));
        due("crash behind a put that threw", again.crash(0), 36);
        pageIs(again, 6, new long[16]);
        due("reopen", again.reopen(), 6);
        due("one page is enough for one leaf", book.put(6, 66), 8);
        due("none left", book.free(), 0);
        refused(book, "put that needs one page", STATE, () -> book.put(6, 67));
        Book full = new Book(64);
        for (int k = 0; k < 67; k++) {
            full.put(k, k);
        }
        due("sixteen leaves", full.count(67, 1), 16);
        due("pages are left", full.free() > 2, true);
        refused(full, "the seventeenth leaf", STATE, () -> full.put(67, 1));
        refused(full, "wrong key before the seventeenth leaf", ARGUMENT, () -> full.put(1000001, 1));
        due("sixteen leaves, no split", full.put(66, 1), 68);
        due("into another leaf", full.put(2, 1), 69);
    }

    private static void putWithoutNewest() {
        Book book = Book.of(16, 3, 4);
        book.poke(1, 2, 1);
        refused(book, "put, NEWEST not KEPT", STATE, () -> book.put(5, 5));
        refused(book, "put of a wrong key, NEWEST not KEPT", STATE, () -> book.put(-1, 5));
        book.poke(1, 2, 1);
        book.pokeRoot(2, 0, 8);
        refused(book, "put, NEWEST not told", STATE, () -> book.put(5, 5));
        book.pokeRoot(2, 0, 8);
        due("put, mended", book.put(5, 5), 3);
    }

    @Says("Promise 3")
    static void drop() {
        Book book = Book.of(16, 10, 20, 30);
        due("no such key", book.drop(15), 0);
        due("no act", book.version(), 3);
        due("drop", book.drop(20), 4);
        pageIs(book, 3, Words.leaf(10, 100, 30, 300));
        rootIs(book, 4, Words.root(4, 2, 3));
        due("drop the first", book.drop(10), 5);
        due("drop the last", book.drop(30), 6);
        rootIs(book, 6, Words.root(6, 0));
        due("no page taken", book.free(), 16 - 5);
        due("drop of none", book.drop(30), 0);
        due("put after all went", book.put(1, 1), 7);
        rootIs(book, 7, Words.root(7, 1, 5));
        Book empty = new Book(8);
        due("drop in an empty book", empty.drop(0), 0);
        due("it makes no version", empty.version(), 0);
        dropLeaves();
        dropWrong();
    }

    private static void dropLeaves() {
        Book book = Book.of(64, 10, 20, 30, 40, 50, 60, 70, 80, 90, 100, 110, 120);
        long[] was = book.root(4);
        book.drop(50);
        book.drop(60);
        book.drop(70);
        due("three leaves", book.count(15, 1), 3);
        due("the last of a leaf", book.drop(80), 16);
        rootIs(book, 0, Words.root(16, 8, was[2], was[4]));
        due("words of that", book.crash(100), 20);
        book.reopen();
        // Roots are used again: what an older version had behind the leaves must not stay.
        for (int key : new int[] {10, 20, 30, 40, 90, 100, 110}) {
            book.drop(key);
        }
        book.put(120, 1);
        rootIs(book, 0, Words.root(24, 1, book.rootAt(0, 2)));
        due("one leaf", book.count(24, 1), 1);
    }

    private static void dropWrong() {
        Book book = Book.of(8, 0, 1, 2, 3, 4, 5, 6);
        book.put(6, 7);
        due("no page left", book.free(), 0);
        refused(book, "drop without room", STATE, () -> book.drop(3));
        due("no such key without room", book.drop(300), 0);
        for (int key : new int[] {-1, 1000001, Integer.MIN_VALUE, Integer.MAX_VALUE}) {
            refused(book, "drop of a wrong key", ARGUMENT, () -> book.drop(key));
        }
        Book one = new Book(8);
        one.put(1, 1);
        for (int k = 0; k < 7; k++) {
            one.put(1, k);
        }
        due("no page left", one.free(), 0);
        due("a leaf that goes needs no page", one.drop(1), 9);
        Book closed = Book.closed(16, 3);
        refused(closed, "drop, closed", STATE, () -> closed.drop(3));
        refused(closed, "drop of a wrong key, closed", STATE, () -> closed.drop(-1));
        Book bad = Book.of(16, 3, 4);
        bad.pokeRoot(2, 19, 1);
        refused(bad, "drop, NEWEST not KEPT", STATE, () -> bad.drop(3));
        refused(bad, "drop of no key there, NEWEST not KEPT", STATE, () -> bad.drop(5));
        refused(bad, "drop of a wrong key, NEWEST not KEPT", STATE, () -> bad.drop(-1));
    }

    @Says("Promise 4")
    static void version() {
        Book book = Book.of(16, 3, 4);
        due("version", book.version(), 2);
        book.pokeRoot(2, 0, 1);
        due("version, not KEPT", book.version(), 2);
        Book closed = Book.closed(16, 3);
        refused(closed, "version, closed", STATE, closed::version);
        closed.reopen();
        due("version, opened", closed.version(), 1);
    }

    @Says("Promise 5")
    static void has() {
        Book book = Book.of(64, 10, 20, 30, 40, 50, 60, 70, 80, 90);
        for (int key : new int[] {10, 40, 50, 90}) {
            due("has " + key, book.has(9, key), true);
        }
        for (int key : new int[] {0, 9, 11, 45, 91, 1000000, -1, 1000001, Integer.MIN_VALUE, Integer.MAX_VALUE}) {
            due("has " + key, book.has(9, key), false);
        }
        due("an older version", book.has(8, 90), false);
        notKept(book, 9, (b, v) -> () -> b.has(v, 10));
    }

    @Says("Promise 6")
    static void find() {
        Book book = Book.of(64, 10, 20, 30, 40, 50, 60, 70, 80);
        book.put(50, -7);
        due("find", book.find(9, 50), -7L);
        due("find in the older", book.find(8, 50), 500L);
        due("find the last", book.find(9, 80), 800L);
        for (int key : new int[] {0, 9, 11, 45, 91, 1000000, -1, 1000001, Integer.MIN_VALUE, Integer.MAX_VALUE}) {
            due("find " + key, book.find(9, key), 0L);
        }
        notKept(book, 9, (b, v) -> () -> b.find(v, 10));
    }

    private interface OfVersion {
        Call of(Book book, int version);
    }

    /** The versions NEWEST - 7 .. NEWEST are KEPT, and no others. */
    private static void notKept(Book book, int newest, OfVersion call) {
        for (int v : new int[] {newest + 1, newest - 8, newest - 16, newest + 8, -1, -8, Integer.MIN_VALUE,
            Integer.MAX_VALUE}) {
            refused(book, "version " + v, INDEX, call.of(book, v));
        }
        for (int v = newest - 7; v <= newest; v++) {
            due("version " + v + " is KEPT", answer(call.of(book, v)) instanceof Class, false);
        }
        int page = (int) book.rootAt(newest % 8, 2);
        book.poke(page, 15, 4);
        refused(book, "a page not RIGHT", INDEX, call.of(book, newest));
        book.poke(page, 15, 4);
        book.pokeRoot(newest % 8, 17, 4);
        refused(book, "a root not RIGHT", INDEX, call.of(book, newest));
        due("another version is KEPT", answer(call.of(book, newest - 1)) instanceof Class, false);
        book.pokeRoot(newest % 8, 17, 4);
        book.put(0, 0);
        book.crash(0);
        refused(book, "closed", STATE, call.of(book, newest));
        refused(book, "closed, no such version", STATE, call.of(book, newest + 5));
        book.reopen();
        due("opened", answer(call.of(book, newest)) instanceof Class, false);
    }

    @Says("Promise 7")
    static void count() {
        Book book = Book.of(64, 10, 20, 30, 40, 50, 60, 70, 80);
        due("entries", book.count(8, 0), 8);
        due("leaves", book.count(8, 1), 2);
        due("entries of 7", book.count(7, 0), 7);
        due("leaves of 7", book.count(7, 1), 1);
        for (int what : new int[] {-1, 2, Integer.MIN_VALUE, Integer.MAX_VALUE}) {
            refused(book, "count of another", ARGUMENT, () -> book.count(8, what));
            refused(book, "count of another in no version", INDEX, () -> book.count(9, what));
        }
        book.put(80, 1);
        notKept(book, 9, (b, v) -> () -> b.count(v, 0));
        Book closed = Book.closed(16, 3);
        refused(closed, "count of another, closed", STATE, () -> closed.count(9, 2));
    }

    @Says("Promise 8")
    static void key() {
        Book book = Book.of(64, 80, 10, 70, 20, 60, 30, 50, 40, 45);
        due("keys", book.keys(9), List.of(10, 20, 30, 40, 45, 50, 60, 70, 80));
        due("keys before", book.keys(3), List.of(10, 70, 80));
        for (int k : new int[] {-1, 9, Integer.MIN_VALUE, Integer.MAX_VALUE}) {
            refused(book, "no such entry", INDEX, () -> book.key(9, k));
        }
        notKept(book, 9, (b, v) -> () -> b.key(v, 0));
        Book empty = new Book(8);
        refused(empty, "key of nothing", INDEX, () -> empty.key(0, 0));
    }

    @Says("Promise 9")
    static void same() {
        Book book = Book.of(64, 10, 20);
        book.put(10, 100);
        due("the same put again", book.same(2, 3), true);
        due("more", book.same(1, 3), false);
        due("fewer", book.same(3, 1), false);
        book.put(10, 101);
        due("another value", book.same(3, 4), false);
        book.put(10, 100);
        due("the old value again", book.same(3, 5), true);
        book.drop(20);
        book.put(21, 200);
        due("another key", book.same(5, 7), false);
        due("itself", book.same(7, 7), true);
        due("nothing and something", book.same(0, 7), false);
        notKept(Book.of(64, 1, 2, 3, 4, 5, 6, 7, 8, 9), 9, (b, v) -> () -> b.same(v, 3));
        notKept(Book.of(64, 1, 2, 3, 4, 5, 6, 7, 8, 9), 9, (b, v) -> () -> b.same(3, v));
        sameInOtherLeaves();
    }

    private static void sameInOtherLeaves() {
        Book book = Book.of(64, 10, 20, 30, 40, 50, 60, 70);
        book.put(80, 1);
        book.drop(80);
        due("leaves of 7", book.count(7, 1), 1);
        due("leaves of 9", book.count(9, 1), 2);
        due("leaves do not matter", book.same(7, 9), true);
        book.put(70, 1);
        due("the last value does", book.same(7, 10), false);
    }

    @Says("Promise 10")
    static void free() {
        Book book = new Book(10);
        due("free", book.free(), 10);
        for (int v = 1; v <= 8; v++) {
            book.put(1, v);
            due("free at " + v, book.free(), 10 - v);
        }
        book.put(1, 9);
        due("eight versions, a page each", book.free(), 2);
        book.pokeRoot(1, 18, 1);
        due("a root that is SOUND, not RIGHT", book.free(), 2);
        book.pokeRoot(1, 2, 1L << 40);
        due("a root that is not SOUND", book.free(), 3);
        book.pokeRoot(1, 2, 1L << 40);
        book.pokeRoot(1, 0, 1L << 50);
        due("a root above NEWEST", book.free(), 3);
        book.pokeRoot(1, 0, 1L << 50);
        book.pokeRoot(1, 0, -1L);
        due("a root with a VERSION below 0", book.free(), 2);
        book.pokeRoot(1, 0, -1L);
        book.pokeRoot(1, 3, 9);
        due("a word behind the leaves", book.free(), 2);
        book.pokeRoot(1, 1, 3);
        due("two leaves then", book.free(), 1);
        Book closed = Book.closed(16, 3);
        refused(closed, "free, closed", STATE, closed::free);
        soundRoots();
    }

    private static void soundRoots() {
        Book book = Book.of(8, 5);
        book.pokeRoot(1, 1, 1 ^ 16);
        for (int k = 0; k < 16; k++) {
            book.pokeRoot(1, 2 + k, book.rootAt(1, 2 + k) ^ (k % 8) ^ 0x100);
            book.pokeRoot(1, 2 + k, 0x100);
        }
        due("sixteen leaves are SOUND", book.free(), 0);
        book.pokeRoot(1, 1, 1);
        due("seventeen are not", book.free(), 8);
        book.pokeRoot(1, 1, 17 ^ -1L);
        due("-1 are not", book.free(), 8);
        book.pokeRoot(1, 1, -1L ^ 8);
        due("eight are", book.free(), 0);
        book.pokeRoot(1, 9, 7 ^ 8);
        due("page 8 of eight is none", book.free(), 8);
        book.pokeRoot(1, 9, 8 ^ -1L);
        due("page -1 is none", book.free(), 8);
        book.pokeRoot(1, 1, 8 ^ 7);
        due("seven", book.free(), 1);
    }

    @Says("Promise 11")
    static void crash() {
        for (int k = 0; k <= 60; k++) {
            cut(k, 36, 7, 0);
            cut(k, 52, 8, 0);
            cut(k, 20, 1, 1);
        }
        cut(Integer.MAX_VALUE, 52, 8, 0);
        Book book = Book.of(16, 1, 2);
        refused(book, "k below 0", ARGUMENT, () -> book.crash(-1));
        refused(book, "k far below 0", ARGUMENT, () -> book.crash(Integer.MIN_VALUE));
        due("drop of no key is no act", book.drop(9), 0);
        due("crash of the latest", book.crash(7), 36);
        refused(book, "closed", STATE, () -> book.crash(1));
        refused(book, "k below 0, closed", STATE, () -> book.crash(-1));
        book.reopen();
        refused(book, "no act since it was OPENED", STATE, () -> book.crash(1));
        refused(book, "k below 0, no act", STATE, () -> book.crash(-1));
        book.put(3, 3);
        book.reopen();
        refused(book, "no act since it was OPENED though open", STATE, () -> book.crash(1));
        crashAfterPoke();
    }

    private static void crashAfterPoke() {
        Book book = Book.of(16, 1, 2);
        answer(() -> book.poke(0, 3, 0));
        answer(() -> book.pokeRoot(9, 3, 1));
        due("a poke that throws alters nothing", book.crash(99), 36);
        book.reopen();
        book.put(3, 3);
        book.poke(15, 3, 1);
        refused(book, "a word was altered", STATE, () -> book.crash(1));
        refused(book, "k below 0, a word was altered", STATE, () -> book.crash(-1));
        book.poke(15, 3, 1);
        refused(book, "a word was altered and back", STATE, () -> book.crash(1));
        book.put(4, 4);
        due("altered before that act", book.crash(1), 36);
        book.reopen();
        book.put(4, 4);
        book.pokeRoot(7, 19, 1);
        refused(book, "a root's word was altered", STATE, () -> book.crash(1));
        book.drop(77);
        refused(book, "still", STATE, () -> book.crash(1));
    }

    /** Keys 1 .. n are put; if it is to be a drop, the last is dropped then. The latest act is cut at k. */
    private static void cut(int k, int total, int n, int drops) {
        Book book = new Book(16);
        // Something else stands on the pages before, so that what was before can be told from 0.
        for (int p = 0; p < 16; p++) {
            for (int i = 0; i < 16; i++) {
                book.poke(p, i, 1000 + 16 * p + i);
            }
        }
        for (int key = 1; key < n; key++) {
            book.put(key, key);
        }
        if (drops == 1) {
            book.put(n, n);
        }
        int version = n + drops;
        long[] want = book.words();
        due("the act", drops == 1 ? book.drop(n) : book.put(n, n), version);
        long[] after = book.words();
        due("crash(" + k + ")", book.crash(k), total);
        for (int j = 0; j < Math.min(k, total); j++) {
            int at = placeOfWord(j, total, version);
            want[at] = after[at];
        }
        due("the words cut at " + k + " of " + total, Words.text(book.words()), Words.text(want));
        int back = k >= total ? version : version - 1;
        due("reopen", book.reopen(), back);
        due("version", book.version(), back);
    }

    /** Where the act's j-th word stands among all words: page v - 1 is the first that is FREE for version v. */
    private static int placeOfWord(int j, int total, int version) {
        int ofRoot = j - (total - 20);
        return ofRoot < 0 ? (version - 1) * 16 + j : 16 * 16 + (version % 8) * 20 + ofRoot;
    }

    @Says("Promise 12")
    static void reopen() {
        Book book = Book.of(16, 1, 2, 3, 4, 5, 6, 7, 8, 9);
        String before = Words.text(book.words());
        due("reopen, open", book.reopen(), 9);
        due("reopen changes no word", Words.text(book.words()), before);
        book.poke((int) book.rootAt(1, 2), 2, 1);
        // Both 8 and 9 have the leaf 1 .. 4; 7 has another.
        due("the newest that is whole", book.reopen(), 7);
        due("version", book.version(), 7);
        refused(book, "8 is above NEWEST", INDEX, () -> book.count(8, 0));
        due("put makes 8 anew", book.put(100, 1), 8);
        due("all of 7 and one more", book.keys(8), List.of(1, 2, 3, 4, 5, 6, 7, 100));
        reopenAtCraftedRoots();
        reopenAtNothing();
        rightPages();
        rightRoots();
    }

    private static void reopenAtCraftedRoots() {
        Book book = Book.of(16, 1, 2);
        book.setRoot(3, Words.root(1000000003L, 1, 0));
        due("a version above the greatest", book.reopen(), 2);
        book.setRoot(0, Words.root(1000000000L, 1, 0));
        due("the greatest version", book.reopen(), 1000000000);
        due("an act behind it", book.put(9, 9), 1000000001);
        due("its keys", book.keys(1000000001), List.of(1, 9));
        due("it is not found anew", book.reopen(), 1000000000);
        book.setRoot(0, Words.root(1000000007L - 8, 1, 0));
        due("not where it should stand", book.reopen(), 2);
        book.setRoot(0, Words.root(8L + (1L << 32), 1, 0));
        due("a version that no int holds", book.reopen(), 2);
        book.setRoot(0, Words.root(-8, 1, 0));
        due("a version below 0", book.reopen(), 2);
        book.setRoot(6, Words.root(14, 1, 0));
        due("a gap", book.reopen(), 14);
        due("2 is KEPT still", book.keys(2), List.of(1, 2));
        book.setRoot(6, Words.root(Long.MIN_VALUE + 6, 1, 0));
        due("far below 0", book.reopen(), 2);
    }

    private static void reopenAtNothing() {
        Book book = Book.of(16, 1, 2, 3, 4, 5, 6, 7, 8, 9);
        for (int r = 0; r < 8; r++) {
            book.pokeRoot(r, 19, 2);
        }
        long[] before = book.words();
        due("no root is RIGHT", book.reopen(), 0);
        rootIs(book, 0, Words.root(0, 0));
        book.setRoot(0, new long[20]);
        for (int i = 0; i < 20; i++) {
            before[16 * 16 + i] = 0;
        }
        due("no other word is altered", Words.text(book.words()), Words.text(before));
        due("reopen of a blank root 0", book.reopen(), 0);
        rootIs(book, 0, Words.root(0, 0));
        due("all is FREE", book.free(), 16);
        due("nothing is in it", book.count(0, 0), 0);
        due("put", book.put(4, 4), 1);
        Book closed = Book.closed(8);
        closed.pokeRoot(0, 5, 1);
        due("closed, no root is RIGHT", closed.reopen(), 0);
        due("it is open", closed.put(1, 1), 1);
    }

    /** What makes a page RIGHT, seen by whether the version that has it is found. */
    private static void rightPages() {
        Book book = Book.of(16, 1, 2);
        long[][] right = {Words.leaf(0, 9), Words.leaf(1000000, 9), Words.leaf(0, 1, 1000000, 1),
            Words.leaf(1, 0, 2, 0, 3, 0, 4, 0, 5, 0, 6, 0, 7, 0)};
        for (long[] page : right) {
            book.setPage(9, page);
            book.setRoot(4, Words.root(4, page[0], 9));
            due("right " + Arrays.toString(page), book.reopen(), 4);
        }
        long[] behind = Words.but(Words.leaf(3, 3), 14, 5);
        book.setPage(9, behind);
        book.setRoot(4, Words.root(4, 1, 9));
        due("a word behind the entries", book.reopen(), 4);
        book.put(4, 4);
        pageIs(book, (int) book.rootAt(5, 2), Words.leaf(3, 3, 4, 4));
        long[] eight = Words.but(Words.leaf(1, 0, 2, 0, 3, 0, 4, 0, 5, 0, 6, 0, 7, 0), 0, 8);
        long[] below = Words.but(Words.leaf(1, 0), 0, -1);
        long[] badSum = Words.leaf(1, 0);
        badSum[15] ^= 1L << 63;
        long[][] bad = {Words.leaf(-1, 9), Words.leaf(1000001, 9), Words.leaf(5, 1, 5, 1), Words.leaf(5, 1, 4, 1), Words.leaf(1L << 32, 0),
            Words.leaf(), eight, below, badSum};
        book = Book.of(16, 1, 2);
        for (long[] page : bad) {
            book.setPage(9, page);
            book.setRoot(4, Words.root(4, page[0], 9));
            due("bad " + Arrays.toString(page), book.reopen(), 2);
        }
    }

    private static void rightRoots() {
        Book book = Book.of(16, 1, 2);
        book.setPage(9, Words.leaf(10, 1, 20, 2));
        book.setPage(10, Words.leaf(21, 3));
        book.setPage(11, Words.leaf());
        book.setPage(12, Words.leaf(20, 3));
        book.setRoot(4, Words.root(4, 3, 9, 10));
        due("two leaves", book.reopen(), 4);
        due("its keys", book.keys(4), List.of(10, 20, 21));
        long[] behind = Words.but(Words.root(4, 3, 9, 10), 17, 99);
        book.setRoot(4, behind);
        due("a word behind the leaves", book.reopen(), 4);
        long[] seventeen = Words.but(Words.root(4, 0), 1, 17);
        long[] below = Words.but(Words.root(4, 0), 1, -1);
        long[] badSum = Words.root(4, 3, 9, 10);
        badSum[19] ^= 1;
        long[][] bad = {Words.root(4, 2, 9, 10), Words.root(4, 4, 9, 10), Words.root(4, 3, 10, 9), Words.root(4, 4, 9, 9),
            Words.root(4, 3, 9, 12), Words.root(4, 2, 9, 11), Words.root(4, 1, 16), Words.root(4, 1, -1), Words.root(4, 2, 9 + (1L << 32)),
            Words.root(4, 2 + (1L << 32), 9), seventeen, below, badSum};
        for (long[] root : bad) {
            book.setRoot(4, root);
            due("bad " + Arrays.toString(root), book.reopen(), 2);
        }
        book.setRoot(4, Words.root(4, 0));
        due("no leaves", book.reopen(), 4);
    }

    @Says("Promise 13")
    static void wordAt() {
        Book book = Book.of(9, 7);
        due("word 0", book.wordAt(0, 0), 1L);
        due("word 1", book.wordAt(0, 1), 7L);
        due("word 2", book.wordAt(0, 2), 70L);
        due("word 15", book.wordAt(0, 15), Words.leaf(7, 70)[15]);
        due("the last", book.wordAt(8, 15), 0L);
        int[][] wrongs = {{-1, 0}, {9, 0}, {0, -1}, {0, 16}, {Integer.MIN_VALUE, 0}, {Integer.MAX_VALUE, 0},
            {0, Integer.MIN_VALUE}, {0, Integer.MAX_VALUE}, {1 << 28, 0}};
        for (int[] w : wrongs) {
            refused(book, "wordAt" + Arrays.toString(w), INDEX, () -> book.wordAt(w[0], w[1]));
        }
        book.crash(1);
        due("word 0, closed", book.wordAt(0, 0), 1L);
        due("word 1, closed", book.wordAt(0, 1), 0L);
        refused(book, "no such page, closed", INDEX, () -> book.wordAt(9, 0));
    }

    @Says("Promise 14")
    static void rootAt() {
        Book book = Book.of(9, 7);
        due("word 0", book.rootAt(1, 0), 1L);
        due("word 18", book.rootAt(1, 18), 1L);
        due("word 19", book.rootAt(1, 19), Words.root(1, 1, 0)[19]);
        due("the last", book.rootAt(7, 19), 0L);
        int[][] wrongs = {{-1, 0}, {8, 0}, {0, -1}, {0, 20}, {Integer.MIN_VALUE, 0}, {Integer.MAX_VALUE, 0},
            {0, Integer.MIN_VALUE}, {0, Integer.MAX_VALUE}, {1 << 30, 0}};
        for (int[] w : wrongs) {
            refused(book, "rootAt" + Arrays.toString(w), INDEX, () -> book.rootAt(w[0], w[1]));
        }
        book.crash(17);
        due("word 0, closed", book.rootAt(1, 0), 1L);
        due("word 1, closed", book.rootAt(1, 1), 0L);
        refused(book, "no such root, closed", INDEX, () -> book.rootAt(8, 0));
    }

    @Says("Promise 15")
    static void poke() {
        Book book = Book.of(9, 7);
        book.poke(0, 2, 1);
        due("altered", book.wordAt(0, 2), 71L);
        book.poke(0, 2, Long.MIN_VALUE);
        due("altered again", book.wordAt(0, 2), 71L ^ Long.MIN_VALUE);
        book.poke(8, 15, -1);
        due("the last word", book.wordAt(8, 15), -1L);
        int[][] wrongs = {{-1, 0}, {9, 0}, {0, -1}, {0, 16}, {Integer.MIN_VALUE, 0}, {Integer.MAX_VALUE, 0},
            {0, Integer.MIN_VALUE}, {0, Integer.MAX_VALUE}};
        for (int[] w : wrongs) {
            refused(book, "poke" + Arrays.toString(w), INDEX, () -> book.poke(w[0], w[1], 1));
            refused(book, "poke with 0" + Arrays.toString(w), INDEX, () -> book.poke(w[0], w[1], 0));
        }
        refused(book, "mask 0", ARGUMENT, () -> book.poke(0, 0, 0));
        Book closed = Book.closed(8, 3);
        closed.poke(0, 15, 1);
        due("poke, closed", closed.wordAt(0, 15), Words.leaf(3, 30)[15] ^ 1);
        due("it is told", closed.badAt(), 0);
    }

    @Says("Promise 16")
    static void pokeRoot() {
        Book book = Book.of(9, 7);
        book.pokeRoot(1, 2, 6);
        due("altered", book.rootAt(1, 2), 6L);
        book.pokeRoot(1, 2, 6);
        due("and back", book.rootAt(1, 2), 0L);
        due("KEPT again", book.has(1, 7), true);
        book.pokeRoot(7, 19, -1);
        due("the last word", book.rootAt(7, 19), -1L);
        int[][] wrongs = {{-1, 0}, {8, 0}, {0, -1}, {0, 20}, {Integer.MIN_VALUE, 0}, {Integer.MAX_VALUE, 0},
            {0, Integer.MIN_VALUE}, {0, Integer.MAX_VALUE}};
        for (int[] w : wrongs) {
            refused(book, "pokeRoot" + Arrays.toString(w), INDEX, () -> book.pokeRoot(w[0], w[1], 1));
            refused(book, "pokeRoot with 0" + Arrays.toString(w), INDEX, () -> book.pokeRoot(w[0], w[1], 0));
        }
        refused(book, "mask 0", ARGUMENT, () -> book.pokeRoot(0, 0, 0));
        Book closed = Book.closed(8, 3);
        closed.pokeRoot(1, 18, 1);
        due("it is told, closed", closed.badAt(), 101);
    }

    @Says("Promise 17")
    static void badAt() {
        Book book = Book.of(16, 1, 2, 3);
        due("nothing", book.badAt(), LeafBook.NONE);
        book.poke(9, 3, 1);
        due("a FREE page", book.badAt(), LeafBook.NONE);
        book.pokeRoot(3, 19, 1);
        due("a root", book.badAt(), 103);
        book.pokeRoot(0, 19, 1);
        due("a root whose words are all 0", book.badAt(), 103);
        book.pokeRoot(0, 19, 2);
        due("such a root whose word 19 is not its SUM", book.badAt(), 103);
        book.pokeRoot(2, 18, 1);
        due("the first of two roots", book.badAt(), 102);
        book.poke(2, 0, 2);
        due("a page before the roots", book.badAt(), 2);
        book.poke(1, 3, 1);
        due("the first of two pages", book.badAt(), 1);
        book.pokeRoot(2, 1, 32);
        due("of a root that is not SOUND", book.badAt(), 2);
        book.poke(2, 0, 2);
        due("the root itself", book.badAt(), 102);
        book.pokeRoot(2, 1, 32);
        book.pokeRoot(2, 0, 2 ^ 4);
        due("of a root above NEWEST", book.badAt(), 102);
        book.setRoot(2, new long[20]);
        book.pokeRoot(2, 18, 1);
        due("word 18 alone", book.badAt(), 102);
        book.setRoot(2, new long[20]);
        book.pokeRoot(2, 0, 1);
        due("word 0 alone", book.badAt(), 102);
        book.setRoot(2, new long[20]);
        book.setRoot(3, Words.root(77, 5, 1));
        due("a root with its sum, not RIGHT", book.badAt(), LeafBook.NONE);
        book.setPage(0, Words.leaf());
        due("a page with no entries is RIGHT", book.badAt(), LeafBook.NONE);
        book.setPage(0, Words.leaf(3, 3, 3, 3));
        due("a page with its sum, not RIGHT", book.badAt(), 0);
        badAtWhileClosed();
    }

    /** A cut leaves NEWEST as the act made it: the document says nothing else, and opening settles it. */
    private static void badAtWhileClosed() {
        Book book = new Book(16);
        for (int v = 1; v <= 8; v++) {
            book.put(1, v);
        }
        book.poke(0, 2, 1);
        due("the page of version 1", book.badAt(), 0);
        book.put(1, 9);
        due("no root has it", book.badAt(), LeafBook.NONE);
        book.crash(17);
        due("version 9 with the leaf of 1", book.badAt(), 0);
        book.reopen();
        due("9 is above NEWEST", book.badAt(), 101);
    }
}
