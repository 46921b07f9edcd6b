import java.util.List;

/**
 * A test for each sentence of the promises that names a boundary: too small, too large, empty, full, a refused call.
 * A refused call throws exactly what is named, of several the one named first, and changes nothing.
 */
public final class BoundaryTest extends Check {
    private static final int[] NO_KEYS = {-1, 1000001, Integer.MIN_VALUE, Integer.MAX_VALUE};

    public static void main(String[] args) {
        run(BoundaryTest.class);
    }

    // ---- What it is

    @Says("An object is used for at most 512 calls after it has been made: the 512th is as promised")
    static void theLastCall() {
        Book book = new Book(9);
        for (int value = 1; value < Book.MOST_CALLS; value++) {
            due("put " + value, book.put(5, value), value);
        }
        due("find", book.find(Book.MOST_CALLS - 1, 5), Book.MOST_CALLS - 1);
    }

    // ---- Promise 1

    @Says("1: the nearest of 8 .. 64: too small")
    static void newTooSmall() {
        hasPages(7, 8);
        hasPages(1, 8);
        hasPages(0, 8);
        hasPages(-1, 8);
        hasPages(-64, 8);
        hasPages(Integer.MIN_VALUE, 8);
    }

    @Says("1: the nearest of 8 .. 64: both ends and next to them")
    static void newWithin() {
        hasPages(8, 8);
        hasPages(9, 9);
        hasPages(63, 63);
        hasPages(64, 64);
    }

    @Says("1: the nearest of 8 .. 64: too large")
    static void newTooLarge() {
        hasPages(65, 64);
        hasPages(Integer.MAX_VALUE, 64);
    }

    // ---- Promise 2

    @Says("2: key 0 .. 1000000: both ends")
    static void putOutermostKeys() {
        Book book = new Book(8);
        due("0", book.put(0, 7), 1);
        due("1000000", book.put(1000000, 8), 2);
        due("keys", book.keys(2), List.of(0, 1000000));
    }

    @Says("2: IllegalArgumentException: key is not 0 .. 1000000")
    static void putNoKey() {
        for (int key : NO_KEYS) {
            Book book = Book.of(8, 5);
            refused(book, "put of " + key, ARGUMENT, () -> book.put(key, 1));
        }
    }

    @Says("2: a value is any long: 0, the least, the greatest")
    static void putOutermostValues() {
        Book book = new Book(8);
        for (long value : new long[] {0, Long.MIN_VALUE, Long.MAX_VALUE, -1}) {
            int version = book.put(5, value);
            due("value", book.find(version, 5), value);
            due("it is there", book.has(version, 5), true);
        }
    }

    @Says("2: IllegalStateException: CLOSED, also if every word was written")
    static void putClosed() {
        for (int k : new int[] {0, 20, 36, 37}) {
            Book book = Book.of(8, 5, 6);
            book.crash(k);
            refused(book, "put behind crash(" + k + ")", STATE, () -> book.put(7, 7));
        }
    }

    @Says("2: IllegalStateException: CLOSED, only until it is OPENED")
    static void putOpened() {
        Book book = Book.closed(8, 5);
        book.reopen();
        due("put", book.put(6, 6), 2);
    }

    @Says("2: IllegalStateException: NEWEST is not KEPT: its leaf is altered")
    static void putOnAnAlteredLeaf() {
        Book book = Book.of(8, 5, 6);
        book.poke(1, 2, 1);
        refused(book, "put", STATE, () -> book.put(7, 7));
        book.poke(1, 2, 1);
        due("put, as it was", book.put(7, 7), 3);
    }

    @Says("2: IllegalStateException: NEWEST is not KEPT: a leaf that the key does not go to is altered")
    static void putBesideAnAlteredLeaf() {
        Book book = Book.of(16, 10, 20, 30, 40, 50, 60, 70, 80);
        book.poke(book.leaf(0, 1), 14, 1);
        refused(book, "put", STATE, () -> book.put(11, 7));
    }

    @Says("2: IllegalStateException: NEWEST is not KEPT: its root is altered, tells another version")
    static void putOnAnAlteredRoot() {
        Book book = Book.of(8, 5, 6);
        book.pokeRoot(2, 17, 1);
        refused(book, "put, root altered", STATE, () -> book.put(7, 7));
        Book other = Book.of(8, 5, 6);
        other.setRoot(2, Words.root(10, 2, 1));
        refused(other, "put, another version", STATE, () -> other.put(7, 7));
    }

    @Says("2: IllegalStateException: NEWEST is not KEPT: the book is empty, and its root is altered")
    static void putOnAnAlteredEmptyRoot() {
        Book book = new Book(8);
        book.pokeRoot(0, 19, 1);
        refused(book, "put", STATE, () -> book.put(5, 5));
        book.reopen();
        due("put, root 0 made anew", book.put(5, 5), 1);
    }

    @Says("2: CLOSED, or NEWEST is not KEPT (both first): before what is said of the key")
    static void putStateBeforeKey() {
        for (int key : NO_KEYS) {
            Book closed = Book.closed(8, 5);
            refused(closed, "put of " + key + ", CLOSED", STATE, () -> closed.put(key, 1));
            Book altered = Book.of(8, 5);
            altered.poke(0, 2, 1);
            refused(altered, "put of " + key + ", not KEPT", STATE, () -> altered.put(key, 1));
        }
    }

    @Says("2: IllegalStateException: there are not pages enough: none for one leaf")
    static void putWithoutAPage() {
        Book book = noPages();
        due("free", book.free(), 0);
        refused(book, "put of a key that is there", STATE, () -> book.put(5, 9));
        refused(book, "put of another key", STATE, () -> book.put(6, 9));
    }

    @Says("2: IllegalStateException: there are not pages enough: one for two leaves")
    static void putWithoutASecondPage() {
        Book book = Book.of(8, 10, 20, 30, 40, 50, 60, 70);
        due("free", book.free(), 1);
        refused(book, "put that makes two leaves", STATE, () -> book.put(80, 9));
    }

    @Says("2: there are just pages enough: one for one leaf, two for two")
    static void putWithJustEnoughPages() {
        Book one = Book.of(8, 10, 20, 30, 40, 50, 60, 70);
        due("one", one.put(70, 9), 8);
        due("free", one.free(), 0);
        Book two = Book.of(9, 10, 20, 30, 40, 50, 60, 70);
        due("free before", two.free(), 2);
        due("two", two.put(80, 9), 8);
        due("free", two.free(), 0);
        due("leaves", two.count(8, 1), 2);
    }

    @Says("2: behind what is said of the key, there are not pages enough")
    static void putKeyBeforePages() {
        for (int key : NO_KEYS) {
            Book none = noPages();
            refused(none, "put of " + key, ARGUMENT, () -> none.put(key, 9));
            Book one = Book.of(8, 10, 20, 30, 40, 50, 60, 70);
            refused(one, "put of " + key, ARGUMENT, () -> one.put(key, 9));
        }
    }

    @Says("2: IllegalStateException: 17 leaves would be")
    static void putTheSeventeenthLeaf() {
        Book book = sixteenLeaves();
        due("pages are there", book.free() >= 2, true);
        refused(book, "put", STATE, () -> book.put(67, 1));
    }

    @Says("2: 17 leaves would be: 16 may be")
    static void putTheSixteenthLeaf() {
        Book book = new Book(64);
        for (int key = 0; key < 63; key++) {
            book.put(key, key);
        }
        due("leaves", book.count(63, 1), 15);
        due("put", book.put(63, 63), 64);
        due("leaves then", book.count(64, 1), 16);
    }

    @Says("2: 17 leaves would be: not if no leaf gets 8 ENTRIES")
    static void putIntoSixteenLeaves() {
        Book book = sixteenLeaves();
        due("a key that is there, in the full leaf", book.put(66, 1), 68);
        due("a key that is there, in another leaf", book.put(0, 1), 69);
        book.drop(66);
        due("the seventh of the last leaf again", book.put(1000000, 1), 71);
        due("leaves", book.count(71, 1), 16);
    }

    @Says("2: behind what is said of the key, 17 leaves would be")
    static void putKeyBeforeLeaves() {
        Book book = sixteenLeaves();
        for (int key : NO_KEYS) {
            refused(book, "put of " + key, ARGUMENT, () -> book.put(key, 1));
        }
    }

    // ---- Promise 3

    @Says("3: 0 if there is no such key in NEWEST (no ACT then): below, between, above, in another version")
    static void dropNoSuchKey() {
        Book book = Book.of(16, 10, 20, 30, 40, 50, 60, 70, 80);
        book.drop(60);
        for (int key : new int[] {0, 9, 11, 45, 60, 81, 1000000}) {
            List<Object> before = book.state();
            due("drop of " + key, book.drop(key), 0);
            due("drop of " + key + " changed nothing", book.state(), before);
        }
    }

    @Says("3: 0 if there is no such key in NEWEST (no ACT then): the book is empty")
    static void dropInAnEmptyBook() {
        Book book = new Book(8);
        due("at first", book.drop(0), 0);
        due("version", book.version(), 0);
        refused(book, "crash behind it", STATE, () -> book.crash(0));
        book.put(5, 5);
        book.drop(5);
        due("when all went", book.drop(5), 0);
        due("version", book.version(), 2);
    }

    @Says("3: 0 if there is no such key in NEWEST (no ACT then): no page is FREE")
    static void dropNoSuchKeyWithoutAPage() {
        due("drop", noPages().drop(6), 0);
    }

    @Says("3: key 0 .. 1000000: both ends")
    static void dropOutermostKeys() {
        Book book = Book.of(8, 0, 1000000);
        due("0", book.drop(0), 3);
        due("1000000", book.drop(1000000), 4);
        due("nothing is left", book.count(4, 0), 0);
    }

    @Says("3: as put(): IllegalArgumentException: key is not 0 .. 1000000")
    static void dropNoKey() {
        for (int key : NO_KEYS) {
            Book book = Book.of(8, 5);
            refused(book, "drop of " + key, ARGUMENT, () -> book.drop(key));
            Book empty = new Book(8);
            refused(empty, "drop of " + key + ", empty", ARGUMENT, () -> empty.drop(key));
        }
    }

    @Says("3: as put(): IllegalStateException: CLOSED, whether the key is there or not")
    static void dropClosed() {
        Book book = Book.closed(8, 5);
        refused(book, "drop", STATE, () -> book.drop(5));
        refused(book, "drop of none", STATE, () -> book.drop(6));
        Book written = Book.of(8, 5);
        written.crash(36);
        refused(written, "drop, every word was written", STATE, () -> written.drop(5));
    }

    @Says("3: as put(): IllegalStateException: NEWEST is not KEPT, whether the key is there or not")
    static void dropNotKept() {
        Book book = Book.of(8, 5, 6);
        book.poke(1, 4, 1);
        refused(book, "drop, leaf altered", STATE, () -> book.drop(5));
        refused(book, "drop of none, leaf altered", STATE, () -> book.drop(7));
        Book root = Book.of(8, 5, 6);
        root.pokeRoot(2, 19, 1);
        refused(root, "drop, root altered", STATE, () -> root.drop(5));
        refused(root, "drop of none, root altered", STATE, () -> root.drop(7));
        Book empty = new Book(8);
        empty.pokeRoot(0, 19, 1);
        refused(empty, "drop, empty, root altered", STATE, () -> empty.drop(5));
    }

    @Says("3: as put(): CLOSED, or NEWEST is not KEPT (both first): before what is said of the key")
    static void dropStateBeforeKey() {
        for (int key : NO_KEYS) {
            Book closed = Book.closed(8, 5);
            refused(closed, "drop of " + key + ", CLOSED", STATE, () -> closed.drop(key));
            Book altered = Book.of(8, 5);
            altered.pokeRoot(1, 3, 1);
            refused(altered, "drop of " + key + ", not KEPT", STATE, () -> altered.drop(key));
        }
    }

    @Says("3: as put(): IllegalStateException: there are not pages enough")
    static void dropWithoutAPage() {
        Book book = Book.of(8, 10, 20, 30, 40, 50, 60, 70, 70);
        due("free", book.free(), 0);
        refused(book, "drop", STATE, () -> book.drop(10));
    }

    @Says("3: there are just pages enough: none for a leaf that goes, one for one that stays")
    static void dropWithJustEnoughPages() {
        Book none = noPages();
        due("a leaf that goes", none.drop(5), 9);
        due("entries", none.count(9, 0), 0);
        Book one = Book.of(8, 10, 20, 30, 40, 50, 60, 70);
        due("a leaf that stays", one.drop(10), 8);
        due("free", one.free(), 0);
    }

    @Says("3: as put(): behind what is said of the key, there are not pages enough")
    static void dropKeyBeforePages() {
        for (int key : NO_KEYS) {
            Book book = noPages();
            refused(book, "drop of " + key, ARGUMENT, () -> book.drop(key));
        }
    }

    @Says("3: 17 leaves would be: a drop makes none more")
    static void dropOutOfSixteenLeaves() {
        Book book = sixteenLeaves();
        due("drop out of the full leaf", book.drop(60), 68);
        due("leaves", book.count(68, 1), 16);
    }

    // ---- Promise 4

    @Says("4: IllegalStateException: CLOSED")
    static void versionClosed() {
        Book book = Book.closed(8, 5);
        refused(book, "version", STATE, book::version);
        book.reopen();
        due("version, OPENED", book.version(), 1);
    }

    @Says("4: NEWEST: also if it is not KEPT")
    static void versionNotKept() {
        Book book = Book.of(8, 5, 6);
        book.pokeRoot(2, 0, 1);
        due("version", book.version(), 2);
    }

    // ---- Promises 5 and 6

    @Says("5: whether a version has a key: no number is refused, too small and too large ones are not there")
    static void hasNoKey() {
        Book book = Book.of(8, 0, 1000000);
        for (int key : NO_KEYS) {
            due("has " + key, book.has(2, key), false);
        }
        due("has 0", book.has(2, 0), true);
        due("has 1000000", book.has(2, 1000000), true);
    }

    @Says("5: whether a version has a key: the first and the last of each leaf, and beside them")
    static void hasAtTheEdgesOfLeaves() {
        Book book = Book.of(16, 10, 20, 30, 40, 50, 60, 70, 80);
        for (int key : new int[] {10, 40, 50, 80}) {
            due("has " + key, book.has(8, key), true);
            due("has " + (key - 1), book.has(8, key - 1), false);
            due("has " + (key + 1), book.has(8, key + 1), false);
        }
    }

    @Says("5: whether a version has a key: the words behind the ENTRIES, which are 0, are no key 0")
    static void hasNoKeyZero() {
        Book book = Book.of(16, 10, 20, 30, 40, 50, 60, 70, 80);
        for (int version = 1; version <= 8; version++) {
            due("has 0 in " + version, book.has(version, 0), false);
        }
        due("drop 0", book.drop(0), 0);
    }

    @Says("5: whether a version has a key: an empty version")
    static void hasInAnEmptyVersion() {
        due("has 0", new Book(8).has(0, 0), false);
        due("has 5", Book.of(8, 5).has(0, 5), false);
    }

    @Says("5: IllegalStateException; IndexOutOfBoundsException")
    static void hasRefused() {
        ofKeptVersions("has", (book, version) -> book.has(version, 5));
        ofKeptVersions("has no key", (book, version) -> book.has(version, -1));
    }

    @Says("6: 0 if it is not there: too small, too large, beside keys that are there")
    static void findNoKey() {
        Book book = Book.of(16, 10, 20, 30, 40, 50, 60, 70, 80);
        for (int key : NO_KEYS) {
            due("find " + key, book.find(8, key), 0);
        }
        for (int key : new int[] {10, 40, 50, 80}) {
            due("find " + key, book.find(8, key), key * 10);
            due("find " + (key - 1), book.find(8, key - 1), 0);
            due("find " + (key + 1), book.find(8, key + 1), 0);
        }
    }

    @Says("6: 0 if it is not there: an empty version")
    static void findInAnEmptyVersion() {
        due("find 0", new Book(8).find(0, 0), 0);
        due("find 5", Book.of(8, 5).find(0, 5), 0);
    }

    @Says("6: the value of a key: of the version asked, not of another")
    static void findInEachVersion() {
        Book book = new Book(16);
        for (int value = 1; value <= 12; value++) {
            book.put(5, value);
        }
        for (int version = 5; version <= 12; version++) {
            due("find in " + version, book.find(version, 5), version);
        }
    }

    @Says("6: as has(): IllegalStateException; IndexOutOfBoundsException")
    static void findRefused() {
        ofKeptVersions("find", (book, version) -> book.find(version, 5));
        ofKeptVersions("find no key", (book, version) -> book.find(version, -1));
    }

    // ---- Promise 7

    @Says("7: how many ENTRIES a version has (what = 0), LEAVES (1): empty")
    static void countOfNothing() {
        Book book = new Book(8);
        due("entries", book.count(0, 0), 0);
        due("leaves", book.count(0, 1), 0);
    }

    @Says("7: how many ENTRIES a version has (what = 0), LEAVES (1): full")
    static void countOfSixteenLeaves() {
        Book book = sixteenLeaves();
        due("entries", book.count(67, 0), 67);
        due("leaves", book.count(67, 1), 16);
    }

    @Says("7: IllegalArgumentException: another what: too small, too large")
    static void countOfAnotherWhat() {
        for (int what : new int[] {-1, 2, Integer.MIN_VALUE, Integer.MAX_VALUE}) {
            Book book = Book.of(8, 5);
            refused(book, "count of " + what, ARGUMENT, () -> book.count(1, what));
        }
    }

    @Says("7: IllegalStateException; IndexOutOfBoundsException")
    static void countRefused() {
        ofKeptVersions("count of entries", (book, version) -> book.count(version, 0));
        ofKeptVersions("count of leaves", (book, version) -> book.count(version, 1));
    }

    @Says("7: of several exceptions the one named first: IndexOutOfBoundsException before IllegalArgumentException")
    static void countVersionBeforeWhat() {
        for (int what : new int[] {-1, 2}) {
            Book book = Book.of(8, 5);
            refused(book, "count of " + what + " in no version", INDEX, () -> book.count(2, what));
        }
    }

    @Says("7: of several exceptions the one named first: IllegalStateException before both")
    static void countClosedBeforeAll() {
        Book book = Book.closed(8, 5);
        refused(book, "count of another in no version", STATE, () -> book.count(9, 2));
        refused(book, "count of another", STATE, () -> book.count(1, 2));
    }

    // ---- Promise 8

    @Says("8: the key of a version's k-th ENTRY: the first and the last of each leaf")
    static void keyAtTheEdgesOfLeaves() {
        Book book = Book.of(16, 10, 20, 30, 40, 50, 60, 70, 80);
        due("0", book.key(8, 0), 10);
        due("3", book.key(8, 3), 40);
        due("4", book.key(8, 4), 50);
        due("7", book.key(8, 7), 80);
    }

    @Says("8: the key of a version's k-th ENTRY: 0 and 1000000")
    static void keyThatIsOutermost() {
        Book book = Book.of(8, 1000000, 0);
        due("0", book.key(2, 0), 0);
        due("1", book.key(2, 1), 1000000);
    }

    @Says("8: IndexOutOfBoundsException: there is no such entry: too small, too large")
    static void keyOfNoEntry() {
        Book book = Book.of(16, 10, 20, 30, 40, 50, 60, 70, 80);
        for (int k : new int[] {-1, 8, Integer.MIN_VALUE, Integer.MAX_VALUE}) {
            refused(book, "key(8, " + k + ")", INDEX, () -> book.key(8, k));
        }
        refused(book, "key(3, 3)", INDEX, () -> book.key(3, 3));
    }

    @Says("8: IndexOutOfBoundsException: there is no such entry: empty, full")
    static void keyOfNoEntryInEmptyAndFull() {
        Book empty = new Book(8);
        refused(empty, "key(0, 0)", INDEX, () -> empty.key(0, 0));
        Book full = sixteenLeaves();
        due("key(67, 66)", full.key(67, 66), 66);
        refused(full, "key(67, 67)", INDEX, () -> full.key(67, 67));
    }

    @Says("8: IllegalStateException; IndexOutOfBoundsException: the version is not KEPT")
    static void keyRefused() {
        ofKeptVersions("key", (book, version) -> book.key(version, 0));
        Book book = Book.closed(8, 5);
        refused(book, "key of no entry, CLOSED", STATE, () -> book.key(1, -1));
    }

    // ---- Promise 9

    @Says("9: whether two versions have the same ENTRIES: both are empty")
    static void sameOfNothing() {
        Book book = Book.of(8, 5);
        book.drop(5);
        due("0 and 0", book.same(0, 0), true);
        due("0 and 2", book.same(0, 2), true);
        due("0 and 1", book.same(0, 1), false);
        due("1 and 0", book.same(1, 0), false);
    }

    @Says("9: whether two versions have the same ENTRIES: itself, and one that was put again")
    static void sameOfItself() {
        Book book = Book.of(16, 10, 20, 30, 40, 50, 60, 70, 80, 80);
        due("8 and 8", book.same(8, 8), true);
        due("8 and 9", book.same(8, 9), true);
        due("9 and 8", book.same(9, 8), true);
    }

    @Says("9: whether two versions have the same ENTRIES: in other leaves")
    static void sameInOtherLeaves() {
        Book book = Book.of(16, 10, 20, 30, 40, 50, 60, 70, 80);
        book.drop(80);
        due("leaves of 7", book.count(7, 1), 1);
        due("leaves of 9", book.count(9, 1), 2);
        due("7 and 9", book.same(7, 9), true);
        due("9 and 7", book.same(9, 7), true);
    }

    @Says("9: whether two versions have the same ENTRIES: another value, first and last")
    static void sameButForAValue() {
        for (int key : new int[] {10, 80}) {
            Book book = Book.of(16, 10, 20, 30, 40, 50, 60, 70, 80);
            book.put(key, key * 10L ^ Long.MIN_VALUE);
            due("another value of " + key, book.same(8, 9), false);
        }
    }

    @Says("9: whether two versions have the same ENTRIES: another key, first and last")
    static void sameButForAKey() {
        for (int key : new int[] {10, 80}) {
            Book book = Book.of(16, 10, 20, 30, 40, 50, 60, 70, 80);
            book.drop(key);
            book.put(key + 1, key * 10L);
            due("another key than " + key, book.same(8, 10), false);
        }
    }

    @Says("9: whether two versions have the same ENTRIES: one more, one fewer")
    static void sameButForOneMore() {
        Book book = Book.of(16, 10, 20, 30);
        due("one more", book.same(2, 3), false);
        due("one fewer", book.same(3, 2), false);
    }

    @Says("9: as has(): IllegalStateException; IndexOutOfBoundsException: for either of the two")
    static void sameRefused() {
        ofKeptVersions("same, the first", (book, version) -> book.same(version, 9));
        ofKeptVersions("same, the second", (book, version) -> book.same(9, version));
        ofKeptVersions("same, both", (book, version) -> book.same(version, version));
    }

    // ---- Promise 10

    @Says("10: how many pages are FREE: all at first, none when the book is full")
    static void freeAllAndNone() {
        due("of 8", new Book(8).free(), 8);
        due("of 64", new Book(64).free(), 64);
        due("full", noPages().free(), 0);
    }

    @Says("10: IllegalStateException: CLOSED")
    static void freeClosed() {
        Book book = Book.closed(8, 5);
        refused(book, "free", STATE, book::free);
        book.reopen();
        due("free, OPENED", book.free(), 7);
    }

    @Says("10: how many pages are FREE: answered also if NEWEST is not KEPT")
    static void freeNotKept() {
        Book book = Book.of(8, 5, 6);
        book.pokeRoot(2, 19, 1);
        due("free", book.free(), 6);
    }

    // ---- Promise 11

    @Says("11: how many words the latest ACT wrote: with no leaf, with one, with two")
    static void crashTellsWords() {
        Book none = Book.of(8, 5);
        none.drop(5);
        due("no leaf", none.crash(0), 20);
        due("one leaf", Book.of(8, 5).crash(0), 36);
        due("two leaves", Book.of(16, 10, 20, 30, 40, 50, 60, 70, 80).crash(0), 52);
    }

    @Says("11: CUT: no k is too large")
    static void crashBehindTheLastWord() {
        for (int k : new int[] {35, 36, 37, 512, Integer.MAX_VALUE}) {
            Book book = Book.of(8, 5);
            due("crash(" + k + ")", book.crash(k), 36);
            due("reopen", book.reopen(), k < 36 ? 0 : 1);
        }
    }

    @Says("11: IllegalArgumentException: k is below 0")
    static void crashBelowZero() {
        for (int k : new int[] {-1, Integer.MIN_VALUE}) {
            Book book = Book.of(8, 5);
            refused(book, "crash(" + k + ")", ARGUMENT, () -> book.crash(k));
        }
    }

    @Says("11: IllegalStateException: CLOSED; before k is below 0")
    static void crashClosed() {
        for (int k : new int[] {0, 36}) {
            Book book = Book.of(8, 5);
            book.crash(k);
            refused(book, "crash again", STATE, () -> book.crash(0));
            refused(book, "crash again, k below 0", STATE, () -> book.crash(-1));
        }
    }

    @Says("11: IllegalStateException: there was no ACT since it was made; before k is below 0")
    static void crashWithoutAnAct() {
        Book book = new Book(8);
        refused(book, "crash", STATE, () -> book.crash(0));
        refused(book, "crash, k below 0", STATE, () -> book.crash(-1));
    }

    @Says("11: IllegalStateException: there was no ACT since it was OPENED; before k is below 0")
    static void crashWithoutAnActSinceOpened() {
        Book cut = Book.closed(8, 5);
        cut.reopen();
        refused(cut, "crash, cut before", STATE, () -> cut.crash(0));
        refused(cut, "crash, cut before, k below 0", STATE, () -> cut.crash(-1));
        Book open = Book.of(8, 5);
        open.reopen();
        refused(open, "crash, not cut before", STATE, () -> open.crash(0));
        refused(open, "crash, not cut before, k below 0", STATE, () -> open.crash(-1));
        due("put", open.put(6, 6), 2);
        due("crash behind an ACT", open.crash(0), 36);
    }

    @Says("11: there was no ACT: a refused put, a refused drop and a drop of no key are none")
    static void crashBehindNoAct() {
        Book book = new Book(8);
        answer(() -> book.put(-1, 1));
        answer(() -> book.drop(1000001));
        book.drop(5);
        refused(book, "crash", STATE, () -> book.crash(0));
        Book full = Book.of(8, 10, 20, 30, 40, 50, 60, 70);
        answer(() -> full.put(80, 1));
        full.drop(80);
        due("the latest ACT is the one before", full.crash(0), 36);
        pageIs(full, 6, new long[16]);
        rootIs(full, 7, new long[20]);
        due("reopen", full.reopen(), 6);
    }

    @Says("11: IllegalStateException: a word was altered since that ACT: of a page, of a root; before k is below 0")
    static void crashBehindAnAlteredWord() {
        for (int page : new int[] {0, 7}) {
            Book book = Book.of(8, 5);
            book.poke(page, 15, 1);
            refused(book, "crash, page " + page, STATE, () -> book.crash(0));
            refused(book, "crash, page " + page + ", k below 0", STATE, () -> book.crash(-1));
        }
        for (int root : new int[] {1, 7}) {
            Book book = Book.of(8, 5);
            book.pokeRoot(root, 19, 1);
            refused(book, "crash, root " + root, STATE, () -> book.crash(0));
            refused(book, "crash, root " + root + ", k below 0", STATE, () -> book.crash(-1));
        }
    }

    @Says("11: a word was altered since that ACT: before it does not count")
    static void crashBehindAWordAlteredBefore() {
        Book book = Book.of(8, 5);
        book.poke(7, 15, 1);
        book.pokeRoot(7, 19, 1);
        book.put(6, 6);
        due("crash", book.crash(0), 36);
        due("altered still", book.wordAt(7, 15), 1);
        due("altered still", book.rootAt(7, 19), 1);
    }

    @Says("11: a word was altered since that ACT: a refused poke alters none")
    static void crashBehindARefusedPoke() {
        Book book = Book.of(8, 5);
        answer(() -> book.poke(0, 0, 0));
        answer(() -> book.poke(8, 0, 1));
        answer(() -> book.poke(0, 16, 1));
        answer(() -> book.pokeRoot(0, 0, 0));
        answer(() -> book.pokeRoot(8, 0, 1));
        answer(() -> book.pokeRoot(0, 20, 1));
        due("crash", book.crash(0), 36);
    }

    @Says("11: CUT: a crash again after the book was OPENED and written in cuts the new ACT alone")
    static void crashAgain() {
        Book book = Book.of(8, 5);
        book.crash(0);
        due("reopen", book.reopen(), 0);
        due("put", book.put(6, 6), 1);
        due("crash", book.crash(36), 36);
        due("reopen", book.reopen(), 1);
        due("keys", book.keys(1), List.of(6));
    }

    // ---- Promise 12

    @Says("12: OPENED (also if it is not CLOSED)")
    static void reopenOpen() {
        Book book = Book.of(8, 5, 6);
        String words = Words.text(book.words());
        due("reopen", book.reopen(), 2);
        due("reopen again", book.reopen(), 2);
        due("words", Words.text(book.words()), words);
        due("put", book.put(7, 7), 3);
        Book fresh = new Book(8);
        due("reopen at first", fresh.reopen(), 0);
        rootIs(fresh, 0, Words.root(0, 0));
    }

    @Says("12: NEWEST: none, some, all words of it were written")
    static void reopenClosed() {
        for (int k = 0; k <= 37; k++) {
            Book book = Book.of(8, 5, 6);
            book.crash(k);
            due("reopen behind crash(" + k + ")", book.reopen(), k < 36 ? 1 : 2);
            due("version behind crash(" + k + ")", book.version(), k < 36 ? 1 : 2);
            due("put behind crash(" + k + ")", book.put(7, 7), k < 36 ? 2 : 3);
            due("keys behind crash(" + k + ")", book.keys(k < 36 ? 2 : 3), k < 36 ? List.of(5, 7) : List.of(5, 6, 7));
        }
    }

    @Says("12: NEWEST: the version that the cut root told is gone, the seven before it are KEPT")
    static void reopenWhenRootsCameRound() {
        Book book = new Book(16);
        for (int value = 1; value <= 9; value++) {
            book.put(5, value);
        }
        book.crash(17);
        due("reopen", book.reopen(), 8);
        for (int version = 2; version <= 8; version++) {
            due("find in " + version, book.find(version, 5), version);
        }
        refused(book, "1", INDEX, () -> book.find(1, 5));
        refused(book, "9", INDEX, () -> book.find(9, 5));
    }

    @Says("12: NEWEST: a cut before the root's first word leaves the version that it told")
    static void reopenWhenTheRootWasNotWritten() {
        Book book = new Book(16);
        for (int value = 1; value <= 9; value++) {
            book.put(5, value);
        }
        book.crash(16);
        due("reopen", book.reopen(), 8);
        due("find in 1", book.find(1, 5), 1);
    }

    // ---- Promises 13 and 14

    @Says("13: word i of a page: the first and the last of the first and the last page")
    static void wordAtCorners() {
        Book book = Book.of(9, 5);
        due("0, 0", book.wordAt(0, 0), 1);
        due("0, 15", book.wordAt(0, 15), Words.leaf(5, 50)[15]);
        book.poke(8, 0, 7);
        book.poke(8, 15, 8);
        due("8, 0", book.wordAt(8, 0), 7);
        due("8, 15", book.wordAt(8, 15), 8);
    }

    @Says("13: IndexOutOfBoundsException: there is no such page, word: too small, too large")
    static void wordAtNoWord() {
        Book book = Book.of(9, 5);
        for (int[] at : noWords(9, 16)) {
            refused(book, "wordAt(" + at[0] + ", " + at[1] + ")", INDEX, () -> book.wordAt(at[0], at[1]));
        }
        Book most = new Book(64);
        due("wordAt(63, 15)", most.wordAt(63, 15), 0);
        refused(most, "wordAt(64, 0)", INDEX, () -> most.wordAt(64, 0));
    }

    @Says("13: answered also if the book is CLOSED; what is no word is refused by IndexOutOfBoundsException then, too")
    static void wordAtClosed() {
        Book book = Book.closed(8, 5);
        due("wordAt(0, 1)", book.wordAt(0, 1), 5);
        refused(book, "wordAt(8, 0)", INDEX, () -> book.wordAt(8, 0));
        refused(book, "wordAt(0, 16)", INDEX, () -> book.wordAt(0, 16));
    }

    @Says("14: word i of a root: the first and the last of the first and the last root")
    static void rootAtCorners() {
        Book book = Book.of(8, 5);
        due("1, 0", book.rootAt(1, 0), 1);
        due("0, 19", book.rootAt(0, 19), 1);
        book.pokeRoot(0, 0, 6);
        book.pokeRoot(7, 0, 7);
        book.pokeRoot(7, 19, 8);
        due("0, 0", book.rootAt(0, 0), 6);
        due("7, 0", book.rootAt(7, 0), 7);
        due("7, 19", book.rootAt(7, 19), 8);
    }

    @Says("14: IndexOutOfBoundsException: there is no such root, word: too small, too large")
    static void rootAtNoWord() {
        Book book = Book.of(64, 5);
        for (int[] at : noWords(8, 20)) {
            refused(book, "rootAt(" + at[0] + ", " + at[1] + ")", INDEX, () -> book.rootAt(at[0], at[1]));
        }
    }

    @Says("14: answered also if the book is CLOSED; what is no word is refused by IndexOutOfBoundsException then, too")
    static void rootAtClosed() {
        Book book = Book.closed(8, 5);
        due("rootAt(1, 1)", book.rootAt(1, 1), 1);
        refused(book, "rootAt(8, 0)", INDEX, () -> book.rootAt(8, 0));
        refused(book, "rootAt(0, 20)", INDEX, () -> book.rootAt(0, 20));
    }

    // ---- Promises 15 and 16

    @Says("15: word i of a page becomes itself exclusive-or a mask: no other word does, at the corners")
    static void pokeCorners() {
        for (int[] at : new int[][] {{0, 0}, {0, 15}, {8, 0}, {8, 15}}) {
            for (long mask : new long[] {1, -1, Long.MIN_VALUE, Long.MAX_VALUE}) {
                Book book = Book.of(9, 5);
                long[] want = book.words();
                want[at[0] * 16 + at[1]] ^= mask;
                book.poke(at[0], at[1], mask);
                due("words", Words.text(book.words()), Words.text(want));
            }
        }
    }

    @Says("15: IndexOutOfBoundsException: there is no such page, word: too small, too large")
    static void pokeNoWord() {
        Book book = Book.of(9, 5);
        for (int[] at : noWords(9, 16)) {
            refused(book, "poke(" + at[0] + ", " + at[1] + ")", INDEX, () -> book.poke(at[0], at[1], 1));
        }
    }

    @Says("15: IllegalArgumentException: mask is 0")
    static void pokeNothing() {
        Book book = Book.of(9, 5);
        refused(book, "poke(0, 0, 0)", ARGUMENT, () -> book.poke(0, 0, 0));
        refused(book, "poke(8, 15, 0)", ARGUMENT, () -> book.poke(8, 15, 0));
    }

    @Says("15: of several exceptions the one named first: IndexOutOfBoundsException before IllegalArgumentException")
    static void pokeWordBeforeMask() {
        Book book = Book.of(9, 5);
        for (int[] at : noWords(9, 16)) {
            refused(book, "poke(" + at[0] + ", " + at[1] + ", 0)", INDEX, () -> book.poke(at[0], at[1], 0));
        }
    }

    @Says("15: also if the book is CLOSED")
    static void pokeClosed() {
        Book book = Book.closed(8, 5);
        book.poke(0, 2, 1);
        due("word", book.wordAt(0, 2), 51);
        refused(book, "poke(0, 2, 0)", ARGUMENT, () -> book.poke(0, 2, 0));
        refused(book, "poke(8, 2, 1)", INDEX, () -> book.poke(8, 2, 1));
        due("reopen", book.reopen(), 0);
    }

    @Says("16: the like of a root: no other word does, at the corners")
    static void pokeRootCorners() {
        for (int[] at : new int[][] {{0, 0}, {0, 19}, {7, 0}, {7, 19}}) {
            for (long mask : new long[] {1, -1, Long.MIN_VALUE, Long.MAX_VALUE}) {
                Book book = Book.of(9, 5);
                long[] want = book.words();
                want[9 * 16 + at[0] * 20 + at[1]] ^= mask;
                book.pokeRoot(at[0], at[1], mask);
                due("words", Words.text(book.words()), Words.text(want));
            }
        }
    }

    @Says("16: as poke(): IndexOutOfBoundsException: there is no such root, word: too small, too large")
    static void pokeRootNoWord() {
        Book book = Book.of(64, 5);
        for (int[] at : noWords(8, 20)) {
            refused(book, "pokeRoot(" + at[0] + ", " + at[1] + ")", INDEX, () -> book.pokeRoot(at[0], at[1], 1));
        }
    }

    @Says("16: as poke(): IllegalArgumentException: mask is 0")
    static void pokeRootNothing() {
        Book book = Book.of(9, 5);
        refused(book, "pokeRoot(0, 0, 0)", ARGUMENT, () -> book.pokeRoot(0, 0, 0));
        refused(book, "pokeRoot(7, 19, 0)", ARGUMENT, () -> book.pokeRoot(7, 19, 0));
    }

    @Says("16: as poke(): of several exceptions the one named first")
    static void pokeRootWordBeforeMask() {
        Book book = Book.of(9, 5);
        for (int[] at : noWords(8, 20)) {
            refused(book, "pokeRoot(" + at[0] + ", " + at[1] + ", 0)", INDEX, () -> book.pokeRoot(at[0], at[1], 0));
        }
    }

    @Says("16: as poke(): also if the book is CLOSED")
    static void pokeRootClosed() {
        Book book = Book.closed(8, 5);
        book.pokeRoot(1, 17, 3);
        due("word", book.rootAt(1, 17), 3);
        refused(book, "pokeRoot(1, 17, 0)", ARGUMENT, () -> book.pokeRoot(1, 17, 0));
        refused(book, "pokeRoot(8, 17, 1)", INDEX, () -> book.pokeRoot(8, 17, 1));
        due("reopen", book.reopen(), 0);
    }

    // ---- Promise 17

    @Says("17: NONE: an empty book, a book of many versions")
    static void badAtNothing() {
        due("NONE", LeafBook.NONE, -1);
        due("at first", new Book(8).badAt(), -1);
        due("full", noPages().badAt(), -1);
        due("sixteen leaves", sixteenLeaves().badAt(), -1);
    }

    @Says("17: the first page that is not FREE and not RIGHT: of two; the first page and the last")
    static void badAtPages() {
        Book book = noPages();
        book.poke(7, 15, 1);
        due("the last page", book.badAt(), 7);
        book.poke(3, 0, 16);
        due("one before", book.badAt(), 3);
        book.poke(0, 1, -1);
        due("the first page", book.badAt(), 0);
    }

    @Says("17: the first page that is not FREE and not RIGHT: page 63")
    static void badAtTheGreatestPage() {
        Book book = new Book(64);
        book.setRoot(0, Words.root(0, 0, 63));
        due("words all 0: word 15 is not their SUM", book.badAt(), 63);
        book.setPage(63, Words.leaf());
        due("RIGHT", book.badAt(), -1);
    }

    @Says("17: the first page that is not FREE and not RIGHT: a FREE one does not count")
    static void badAtNoFreePage() {
        Book book = Book.of(8, 5);
        book.poke(1, 15, 1);
        due("badAt", book.badAt(), -1);
    }

    @Says("17: the first page that is not FREE: only an older version has it")
    static void badAtAPageOfAnOlderVersion() {
        Book book = Book.of(8, 5, 6, 7);
        book.poke(0, 2, 1);
        due("badAt", book.badAt(), 0);
    }

    @Says("17: the first page that is not FREE and not RIGHT: its SUM is, but it is not RIGHT")
    static void badAtAPageWithItsSum() {
        Book book = Book.of(8, 5);
        book.setPage(0, Words.leaf(6, 1, 5, 1));
        due("badAt", book.badAt(), 0);
    }

    @Says("17: if there is none, 100 and the first root: the first and the last, of several")
    static void badAtRoots() {
        Book book = noPages();
        book.pokeRoot(7, 19, 1);
        due("the last root", book.badAt(), 107);
        book.pokeRoot(4, 19, Long.MIN_VALUE);
        due("one before", book.badAt(), 104);
        book.pokeRoot(0, 18, 1);
        due("the first root", book.badAt(), 100);
    }

    @Says("17: if there is none: a page goes before a root")
    static void badAtAPageBeforeARoot() {
        Book book = Book.of(8, 5, 6);
        book.pokeRoot(0, 18, 1);
        due("the root", book.badAt(), 100);
        book.poke(1, 15, 1);
        due("the page", book.badAt(), 1);
    }

    @Says("17: whose words 0 to 18 are not all 0: all are, whatever word 19 is")
    static void badAtNoBlankRoot() {
        Book book = new Book(8);
        book.pokeRoot(0, 19, 1);
        due("root 0 without its SUM", book.badAt(), -1);
        book.pokeRoot(5, 19, -1);
        due("root 5", book.badAt(), -1);
    }

    @Says("17: whose words 0 to 18 are not all 0: one of them alone, from 0 to 18")
    static void badAtARootWithOneWord() {
        for (int i = 0; i <= 18; i++) {
            // Not 1: one LEAF would make page 0 not FREE, and it has no SUM.
            for (long mask : new long[] {32, Long.MIN_VALUE}) {
                Book book = new Book(8);
                book.pokeRoot(5, i, mask);
                due("word " + i, book.badAt(), 105);
            }
        }
    }

    @Says("17: whose word 19 is not their SUM: it is, though the root is not RIGHT, or above NEWEST")
    static void badAtNoRootWithItsSum() {
        Book book = Book.of(8, 5);
        book.setRoot(4, Words.root(99, 7, 0));
        due("above NEWEST", book.badAt(), -1);
        book.setRoot(4, Words.root(0, 7, 0));
        due("not RIGHT", book.badAt(), -1);
        book.setRoot(4, Words.root(0, 7, 8));
        due("not SOUND", book.badAt(), -1);
    }

    @Says("17: answered also if the book is CLOSED")
    static void badAtClosed() {
        Book book = Book.closed(8, 5);
        due("nothing", book.badAt(), -1);
        book.pokeRoot(0, 18, 1);
        due("a root", book.badAt(), 100);
        book.poke(0, 2, 1);
        due("a page", book.badAt(), 0);
        Book cut = Book.of(8, 5);
        cut.crash(17);
        due("a root that was cut", cut.badAt(), 101);
    }

    // ---- help

    private interface OfVersion {
        Object ask(Book book, int version);
    }

    /** Of version 9 the versions 2 .. 9 are KEPT; the call is refused for others, and for all while CLOSED. */
    private static void ofKeptVersions(String what, OfVersion call) {
        Book book = Book.of(16, 5, 5, 5, 5, 5, 5, 5, 5, 5);
        for (int version : new int[] {1, 0, -1, 10, 17, Integer.MIN_VALUE, Integer.MAX_VALUE}) {
            refused(book, what + " in " + version, INDEX, () -> call.ask(book, version));
        }
        answers(what + " in the oldest", () -> call.ask(book, 2));
        answers(what + " in the newest", () -> call.ask(book, 9));
        book.poke(book.leaf(4, 0), 2, 1);
        refused(book, what + ", leaf altered", INDEX, () -> call.ask(book, 4));
        book.pokeRoot(5, 0, 8);
        refused(book, what + ", root altered", INDEX, () -> call.ask(book, 5));
        answers(what + ", another altered", () -> call.ask(book, 6));
        book.put(6, 6);
        book.crash(0);
        refused(book, what + ", CLOSED", STATE, () -> call.ask(book, 9));
        refused(book, what + ", CLOSED and not KEPT", STATE, () -> call.ask(book, 11));
        book.reopen();
        answers(what + ", OPENED", () -> call.ask(book, 9));
    }

    private static void hasPages(int asked, int pages) {
        Book book = new Book(asked);
        due("free of " + asked, book.free(), pages);
        due("the last word of " + asked, book.wordAt(pages - 1, 15), 0);
        due("no page more of " + asked, answer(() -> book.wordAt(pages, 0)), INDEX);
    }

    /** Eight pages, each with a version of the key 5 alone: no page is FREE. */
    private static Book noPages() {
        return Book.of(8, 5, 5, 5, 5, 5, 5, 5, 5);
    }

    /** Version 67 of 64 pages: fifteen leaves of four keys and the last, 60 .. 66, of seven. */
    private static Book sixteenLeaves() {
        Book book = new Book(64);
        for (int key = 0; key < 67; key++) {
            book.put(key, key * 10L);
        }
        return book;
    }

    /** Too small and too large, and such that a product with 16 or 20 wraps round. */
    private static int[][] noWords(int rows, int words) {
        return new int[][] {{-1, 0}, {rows, 0}, {0, -1}, {0, words}, {1, -1}, {rows - 1, words}, {rows, -1}, {-1, words},
            {Integer.MIN_VALUE, 0}, {Integer.MAX_VALUE, 0}, {0, Integer.MIN_VALUE}, {0, Integer.MAX_VALUE}, {1 << 28, 0},
            {1 << 30, 0}};
    }
}
