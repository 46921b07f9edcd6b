import java.util.Arrays;
import java.util.List;

/** A test for each sentence under 'Terms' that names a boundary: too small, too large, empty, full, a wrap-around. */
public final class TermsTest extends Check {
    private static final long BEYOND_INT = 1L << 32;

    public static void main(String[] args) {
        run(TermsTest.class);
    }

    // ---- PAGES

    @Says("PAGES: longs, 0 at first")
    static void pagesAtFirst() {
        Book book = new Book(8);
        for (int page = 0; page < 8; page++) {
            pageIs(book, page, new long[16]);
        }
    }

    @Says("PAGES: word 0 how many ENTRIES (0 .. 7): full")
    static void pageOfSevenEntries() {
        Book book = Book.of(16, 10, 20, 30, 40, 50, 60, 70);
        pageIs(book, 6, Words.leaf(10, 100, 20, 200, 30, 300, 40, 400, 50, 500, 60, 600, 70, 700));
        rootIs(book, 7, Words.root(7, 7, 6));
    }

    @Says("PAGES: key and value of ENTRY k, by keys")
    static void entriesByKeys() {
        pageIs(Book.of(16, 30, 10, 20), 2, Words.leaf(10, 100, 20, 200, 30, 300));
    }

    @Says("PAGES: the words behind them 0: a page that had more ENTRIES is used again")
    static void wordsBehindEntriesOfAPageUsedAgain() {
        Book book = Book.of(16, 1, 2, 3, 4, 5, 6, 7);
        pageIs(book, 3, Words.leaf(1, 10, 2, 20, 3, 30, 4, 40));
        for (int key = 7; key > 1; key--) {
            book.drop(key);
        }
        rootIs(book, 5, Words.root(13, 1, 3));
        pageIs(book, 3, Words.leaf(1, 10));
    }

    @Says("PAGES: the words behind them 0: every word of the page was altered before")
    static void wordsBehindEntriesOfAnAlteredPage() {
        Book book = new Book(8);
        book.setPage(0, filled(16, -1));
        book.put(5, 6);
        pageIs(book, 0, Words.leaf(5, 6));
    }

    // ---- ROOTS

    @Says("ROOTS: 0 at first, but for root 0, which is RIGHT, with nothing")
    static void rootsAtFirst() {
        Book book = new Book(8);
        rootIs(book, 0, Words.root(0, 0));
        for (int root = 1; root < 8; root++) {
            rootIs(book, root, new long[20]);
        }
    }

    @Says("ROOTS: 1 how many LEAVES (0 .. 16): empty")
    static void rootWithoutLeaves() {
        Book book = Book.of(8, 5);
        book.drop(5);
        rootIs(book, 2, Words.root(2, 0));
    }

    @Says("ROOTS: 1 how many LEAVES (0 .. 16): full; 18 how many ENTRIES in all")
    static void rootWithSixteenLeaves() {
        Book book = sixteenLeaves();
        long[] root = book.root(3);
        due("VERSION", root[0], 67);
        due("LEAVES", root[1], 16);
        due("ENTRIES", root[18], 67);
        due("SUM", root[19], Words.summed(root)[19]);
        for (int k = 0; k < 15; k++) {
            int key = 4 * k;
            leafIs(book, 3, k, Words.leaf(key, key * 10, key + 1, key * 10 + 10, key + 2, key * 10 + 20, key + 3,
                key * 10 + 30));
        }
        leafIs(book, 3, 15, Words.leaf(60, 600, 61, 610, 62, 620, 63, 630, 64, 640, 65, 650, 66, 660));
    }

    @Says("ROOTS: 2 + k the page of LEAF k, those behind 0: a root that had more LEAVES is used again")
    static void wordsBehindLeavesOfARootUsedAgain() {
        Book book = Book.of(64, 10, 20, 30, 40, 50, 60, 70, 80);
        due("LEAVES of 8", book.rootAt(0, 1), 2);
        for (int key : new int[] {50, 60, 70, 80}) {
            book.drop(key);
        }
        for (int v = 13; v <= 16; v++) {
            book.put(10, v);
        }
        rootIs(book, 0, Words.root(16, 4, book.leaf(0, 0)));
        leafIs(book, 0, 0, Words.leaf(10, 16, 20, 200, 30, 300, 40, 400));
    }

    @Says("ROOTS: those behind 0: every word of the root was altered before")
    static void wordsBehindLeavesOfAnAlteredRoot() {
        Book book = new Book(8);
        book.setRoot(1, filled(20, -1));
        book.put(5, 6);
        rootIs(book, 1, Words.root(1, 1, 0));
    }

    // ---- SUM: these were reckoned by another program

    @Says("SUM: s is 0 .. then s is exclusive-or 1: of nothing but 0")
    static void sumOfNothing() {
        due("word 19", new Book(8).rootAt(0, 19), 1);
    }

    @Says("SUM: for each word w in turn: of a page")
    static void sumOfAPage() {
        Book book = new Book(8);
        book.put(50, 500);
        due("word 15", book.wordAt(0, 15), -5512370819068643923L);
    }

    @Says("SUM: of words 0 to 14: a full page")
    static void sumOfAFullPage() {
        Book book = new Book(16);
        for (int k = 1; k <= 7; k++) {
            book.put(10 * k, k);
        }
        due("word 15", book.wordAt(6, 15), -679400083851991285L);
    }

    @Says("SUM: turned to the left by 5: all bits of a word come round")
    static void sumTurnsAllBits() {
        Book book = new Book(8);
        book.put(0, -1);
        due("word 15", book.wordAt(0, 15), -6499507915380237930L);
    }

    @Says("SUM: turned to the left by 5: the uppermost bit comes round")
    static void sumTurnsTheUppermostBit() {
        Book book = new Book(8);
        book.put(1000000, Long.MIN_VALUE);
        due("word 15", book.wordAt(0, 15), -8080860888797282546L);
    }

    @Says("SUM: times 0x9E3779B97F4A7C15 (wrapped)")
    static void sumWraps() {
        Book book = new Book(8);
        book.put(1, Long.MAX_VALUE);
        due("word 15", book.wordAt(0, 15), -7864242619413093888L);
    }

    @Says("SUM: of words 0 to 18: a root")
    static void sumOfARoot() {
        Book book = Book.of(8, 5, 5);
        due("word 19 of root 1", book.rootAt(1, 19), -2526717630968961146L);
        due("word 19 of root 2", book.rootAt(2, 19), -7318615411131320639L);
    }

    // ---- a RIGHT page

    @Says("A page is RIGHT if its word 15 is its SUM: another bit in any word")
    static void pageWithAnotherBit() {
        for (int i = 0; i < 16; i++) {
            pageIsNotRight(flipped(Words.leaf(5, 50, 6, 60), i, 0));
            pageIsNotRight(flipped(Words.leaf(5, 50, 6, 60), i, 63));
        }
    }

    @Says("A page is RIGHT if word 0 is 0 .. 7: 7")
    static void pageThatTellsSeven() {
        pageIsRight(Words.leaf(1, 0, 2, 0, 3, 0, 4, 0, 5, 0, 6, 0, 7, 0));
    }

    @Says("A page is RIGHT if word 0 is 0 .. 7: 8 is too large")
    static void pageThatTellsEight() {
        pageIsNotRight(Words.but(Words.leaf(1, 0, 2, 0, 3, 0, 4, 0, 5, 0, 6, 0, 7, 0), 0, 8));
    }

    @Says("A page is RIGHT if word 0 is 0 .. 7: -1 is too small")
    static void pageThatTellsMinusOne() {
        pageIsNotRight(Words.but(Words.leaf(1, 0), 0, -1));
        pageIsNotRight(Words.but(Words.leaf(1, 0), 0, Long.MIN_VALUE));
    }

    @Says("A page is RIGHT if word 0 is 0 .. 7: a long that no int holds is too large")
    static void pageThatTellsBeyondInt() {
        pageIsNotRight(Words.but(Words.leaf(1, 0), 0, BEYOND_INT + 1));
        pageIsNotRight(Words.but(Words.leaf(1, 0), 0, Long.MIN_VALUE + 1));
    }

    @Says("A page is RIGHT if word 0 is 0 .. 7: 0")
    static void pageThatTellsNone() {
        due("badAt", leafOfVersionOne(Words.leaf()).badAt(), LeafBook.NONE);
    }

    @Says("A page is RIGHT if its keys are 0 .. 1000000: both ends")
    static void pageWithOutermostKeys() {
        pageIsRight(Words.leaf(0, 9));
        pageIsRight(Words.leaf(1000000, 9));
        pageIsRight(Words.leaf(0, 9, 1000000, 9));
    }

    @Says("A page is RIGHT if its keys are 0 .. 1000000: -1 is too small")
    static void pageWithTooSmallAKey() {
        pageIsNotRight(Words.leaf(-1, 9));
        pageIsNotRight(Words.leaf(-1, 9, 5, 9));
        pageIsNotRight(Words.leaf(Long.MIN_VALUE, 9));
    }

    @Says("A page is RIGHT if its keys are 0 .. 1000000: 1000001 is too large")
    static void pageWithTooLargeAKey() {
        pageIsNotRight(Words.leaf(1000001, 9));
        pageIsNotRight(Words.leaf(1, 0, 2, 0, 3, 0, 4, 0, 5, 0, 6, 0, 1000001, 0));
        pageIsNotRight(Words.leaf(Long.MAX_VALUE, 9));
    }

    @Says("A page is RIGHT if its keys are 0 .. 1000000: a long that no int holds is too large")
    static void pageWithAKeyBeyondInt() {
        pageIsNotRight(Words.leaf(BEYOND_INT + 5, 9));
    }

    @Says("A page is RIGHT if each key is above the one before: by one")
    static void pageWithKeysNextToOneAnother() {
        pageIsRight(Words.leaf(5, 9, 6, 9));
    }

    @Says("A page is RIGHT if each key is above the one before: equal")
    static void pageWithEqualKeys() {
        pageIsNotRight(Words.leaf(5, 9, 5, 9));
        pageIsNotRight(Words.leaf(0, 9, 0, 9));
        pageIsNotRight(Words.leaf(1, 0, 2, 0, 3, 0, 4, 0, 5, 0, 6, 0, 6, 0));
    }

    @Says("A page is RIGHT if each key is above the one before: below")
    static void pageWithFallingKeys() {
        pageIsNotRight(Words.leaf(5, 9, 4, 9));
        pageIsNotRight(Words.leaf(1, 0, 2, 0, 3, 0, 4, 0, 5, 0, 7, 0, 6, 0));
    }

    // ---- a SOUND root

    @Says("A root is SOUND if word 1 is 0 .. 16: 16")
    static void rootThatTellsSixteen() {
        due("held", heldBy(Words.root(0, 0, 0, 1, 2, 3, 4, 5, 6, 7, 0, 1, 2, 3, 4, 5, 6, 7)), 8);
        due("held", heldBy(Words.root(0, 0, 0, 0, 0, 0, 0, 0, 0, 0, 0, 0, 0, 0, 0, 0, 0, 6)), 2);
    }

    @Says("A root is SOUND if word 1 is 0 .. 16: 17 is too large")
    static void rootThatTellsSeventeen() {
        due("held", heldBy(Words.but(Words.root(0, 0, 0, 1, 2, 3, 4, 5, 6, 7, 0, 1, 2, 3, 4, 5, 6, 7), 1, 17)), 0);
    }

    @Says("A root is SOUND if word 1 is 0 .. 16: 0")
    static void rootThatTellsNone() {
        due("held", heldBy(Words.but(Words.root(0, 0, 5), 1, 0)), 0);
        due("reopen", openedWith(Words.root(1, 0)), 1);
    }

    @Says("A root is SOUND if word 1 is 0 .. 16: -1 is too small")
    static void rootThatTellsMinusOne() {
        due("held", heldBy(Words.but(Words.root(0, 0, 5), 1, -1)), 0);
        due("reopen", openedWith(Words.but(Words.root(1, 0), 1, -1)), 0);
        due("reopen", openedWith(Words.but(Words.root(1, 0), 1, Long.MIN_VALUE)), 0);
    }

    @Says("A root is SOUND if word 1 is 0 .. 16: a long that no int holds is too large")
    static void rootThatTellsBeyondInt() {
        due("held", heldBy(Words.but(Words.root(0, 0, 5), 1, BEYOND_INT + 1)), 0);
        due("reopen", openedWith(Words.but(Words.root(1, 0), 1, BEYOND_INT)), 0);
    }

    @Says("A root is SOUND if its LEAVES are pages that there are: 0 .. P - 1")
    static void rootWithOutermostPages() {
        due("the first page", heldBy(Words.root(0, 0, 0)), 1);
        due("the last page", heldBy(Words.root(0, 0, 7)), 1);
    }

    @Says("A root is SOUND if its LEAVES are pages that there are: P is too large")
    static void rootWithTooLargeAPage() {
        due("held", heldBy(Words.root(0, 0, 8)), 0);
        due("held", heldBy(Words.root(0, 0, 1, 2, 8)), 0);
        due("held", heldBy(Words.root(0, 0, 8, 1, 2)), 0);
        due("held", heldBy(Words.root(0, 0, 0, 0, 0, 0, 0, 0, 0, 0, 0, 0, 0, 0, 0, 0, 0, 8)), 0);
        due("held", heldBy(Words.root(0, 0, Long.MAX_VALUE)), 0);
        due("reopen", openedWith(Words.root(1, 3, 1, 16)), 0);
    }

    @Says("A root is SOUND if its LEAVES are pages that there are: -1 is too small")
    static void rootWithTooSmallAPage() {
        due("held", heldBy(Words.root(0, 0, -1)), 0);
        due("held", heldBy(Words.root(0, 0, 1, 2, -1)), 0);
        due("held", heldBy(Words.root(0, 0, Long.MIN_VALUE)), 0);
        due("reopen", openedWith(Words.root(1, 3, 1, -1)), 0);
    }

    @Says("A root is SOUND if its LEAVES are pages that there are: a long that no int holds is none")
    static void rootWithAPageBeyondInt() {
        due("held", heldBy(Words.root(0, 0, BEYOND_INT)), 0);
        due("reopen", openedWith(Words.root(1, 2, BEYOND_INT + 1)), 0);
    }

    @Says("A root is SOUND if its LEAVES are pages that there are: words behind them are no LEAVES")
    static void rootWithAWordBehindItsLeaves() {
        due("held", heldBy(Words.but(Words.root(0, 0, 1), 3, 99)), 1);
        due("held", heldBy(Words.but(Words.root(0, 0, 1), 3, 2)), 1);
    }

    // ---- a RIGHT root

    @Says("A root is RIGHT if its word 19 is its SUM: another bit in any word")
    static void rootWithAnotherBit() {
        due("no other bit", openedWith(Words.root(1, 3, 1, 2)), 1);
        for (int i = 0; i < 20; i++) {
            due("word " + i, openedWith(flipped(Words.root(1, 3, 1, 2), i, 0)), 0);
            due("word " + i, openedWith(flipped(Words.root(1, 3, 1, 2), i, 63)), 0);
        }
    }

    @Says("A root is RIGHT if it is SOUND: 17 LEAVES")
    static void rootOfSeventeenLeaves() {
        due("reopen", openedWith(Words.but(Words.root(1, 3, 1, 2), 1, 17)), 0);
    }

    @Says("A root is RIGHT if its LEAVES are RIGHT: 16 of them")
    static void rootOfSixteenRightLeaves() {
        Book book = new Book(16);
        long[] leaves = new long[16];
        for (int k = 0; k < 16; k++) {
            leaves[k] = 15 - k;
            book.setPage(15 - k, Words.leaf(k, k));
        }
        book.setRoot(1, Words.root(1, 16, leaves));
        due("reopen", book.reopen(), 1);
        due("free", book.free(), 0);
        book.poke(0, 14, 1);
        due("the last not RIGHT", book.reopen(), 0);
    }

    @Says("A root is RIGHT if its LEAVES are RIGHT: one is not")
    static void rootWithALeafThatIsNotRight() {
        due("the only", openedWith(Words.root(1, 1, 6)), 0);
        due("the last", openedWith(Words.root(1, 3, 1, 6)), 0);
        due("the first", openedWith(Words.root(1, 3, 6, 7)), 0);
    }

    @Says("A root is RIGHT if its LEAVES have ENTRIES each: one is empty")
    static void rootWithAnEmptyLeaf() {
        due("the only", openedWith(Words.root(1, 0, 4)), 0);
        due("the last", openedWith(Words.root(1, 2, 1, 4)), 0);
        due("the first", openedWith(Words.root(1, 2, 4, 1)), 0);
    }

    @Says("A root is RIGHT if keys rise from leaf to leaf, too: by one")
    static void rootWithLeavesNextToOneAnother() {
        due("reopen", openedWith(Words.root(1, 3, 1, 2)), 1);
    }

    @Says("A root is RIGHT if keys rise from leaf to leaf, too: equal")
    static void rootWithEqualKeys() {
        due("reopen", openedWith(Words.root(1, 3, 1, 3)), 0);
        due("the same leaf again", openedWith(Words.root(1, 2, 2, 2)), 0);
    }

    @Says("A root is RIGHT if keys rise from leaf to leaf, too: below")
    static void rootWithFallingKeys() {
        due("reopen", openedWith(Words.root(1, 3, 2, 1)), 0);
        due("between the keys of the leaf before", openedWith(Words.root(1, 3, 1, 5)), 0);
    }

    @Says("A root is RIGHT if word 18 is how many they have: one fewer, one more")
    static void rootWithAnotherNumberOfEntries() {
        due("one fewer", openedWith(Words.root(1, 2, 1, 2)), 0);
        due("one more", openedWith(Words.root(1, 4, 1, 2)), 0);
        due("a long that no int holds", openedWith(Words.root(1, BEYOND_INT + 3, 1, 2)), 0);
    }

    @Says("A root is RIGHT if word 18 is how many they have: empty")
    static void rootWithNothing() {
        due("none", openedWith(Words.root(1, 0)), 1);
        due("one too many", openedWith(Words.root(1, 1)), 0);
        due("one too few", openedWith(Words.root(1, -1)), 0);
    }

    // ---- NEWEST

    @Says("NEWEST: 0 at first: root 0 is RIGHT, with nothing")
    static void newestAtFirst() {
        Book book = new Book(8);
        due("version", book.version(), 0);
        due("entries", book.count(0, 0), 0);
        due("leaves", book.count(0, 1), 0);
        due("reopen", book.reopen(), 0);
    }

    // ---- KEPT

    @Says("KEPT, if it is not above NEWEST: NEWEST itself, and one more that a RIGHT root tells")
    static void keptUpToNewest() {
        Book book = Book.of(8, 5);
        book.setRoot(2, Words.root(2, 1, 0));
        due("NEWEST", book.count(1, 0), 1);
        refused(book, "one above NEWEST", INDEX, () -> book.count(2, 0));
        due("it is RIGHT", book.reopen(), 2);
        due("NEWEST then", book.count(2, 0), 1);
    }

    @Says("KEPT, if the root of its number modulo 8 tells it: eight versions, then its root is used again")
    static void keptForEightVersions() {
        Book book = versions(16, 9);
        due("the eighth", book.find(2, 5), 2);
        refused(book, "the ninth", INDEX, () -> book.find(1, 5));
    }

    @Says("KEPT, if the root of its number modulo 8 tells it: version 0 up to version 7")
    static void versionZeroIsKeptUpToSeven() {
        Book book = versions(16, 7);
        due("at 7", book.count(0, 0), 0);
        book.put(5, 8);
        refused(book, "at 8", INDEX, () -> book.count(0, 0));
    }

    @Says("KEPT, if the root of its number modulo 8 tells it: it tells one that is 8 below")
    static void keptByARootThatTellsALesserVersion() {
        Book book = versions(16, 10);
        book.setRoot(1, Words.root(1, 1, book.leaf(1, 0)));
        refused(book, "9", INDEX, () -> book.find(9, 5));
        due("1", book.find(1, 5), 9);
    }

    @Says("KEPT, if the root of its number modulo 8 tells it: another root tells it")
    static void keptByNoOtherRoot() {
        Book book = versions(16, 3);
        book.setRoot(4, book.root(1));
        book.setRoot(1, new long[20]);
        refused(book, "1", INDEX, () -> book.find(1, 5));
    }

    @Says("KEPT, if the root of its number modulo 8 tells it: a long that no int holds is another")
    static void keptByAllBitsOfTheVersion() {
        Book book = versions(16, 3);
        book.setRoot(1, Words.root(1 - BEYOND_INT, 1, 0));
        refused(book, "1", INDEX, () -> book.find(1, 5));
    }

    @Says("KEPT, if the root is RIGHT: a word of the root, a word of its leaf is altered")
    static void keptIfTheRootIsRight() {
        Book book = versions(16, 3);
        book.pokeRoot(2, 17, 1);
        refused(book, "root altered", INDEX, () -> book.find(2, 5));
        book.poke(2, 14, 1);
        refused(book, "leaf altered", INDEX, () -> book.find(3, 5));
        due("another", book.find(1, 5), 1);
    }

    @Says("KEPT: versions that never were, far too small and far too large")
    static void keptAreNoVersionsFarAway() {
        Book book = versions(16, 3);
        for (int version : new int[] {-1, -5, -8, Integer.MIN_VALUE, Integer.MIN_VALUE + 3, 11, Integer.MAX_VALUE}) {
            refused(book, "version " + version, INDEX, () -> book.count(version, 0));
        }
    }

    // ---- FREE

    @Says("FREE: no SOUND root whose VERSION is not above NEWEST: NEWEST itself")
    static void heldByARootOfNewest() {
        due("held", heldAtVersionThree(3), 4);
    }

    @Says("FREE: no SOUND root whose VERSION is not above NEWEST: one above")
    static void freeOfARootAboveNewest() {
        due("held", heldAtVersionThree(4), 3);
    }

    @Says("FREE: no SOUND root whose VERSION is not above NEWEST: far above")
    static void freeOfARootFarAboveNewest() {
        due("no int holds it", heldAtVersionThree(BEYOND_INT), 3);
        due("the greatest", heldAtVersionThree(Long.MAX_VALUE), 3);
    }

    @Says("FREE: no SOUND root whose VERSION is not above NEWEST: below 0")
    static void heldByARootBelowZero() {
        due("-1", heldAtVersionThree(-1), 4);
        due("no int holds it", heldAtVersionThree(10 - BEYOND_INT), 4);
        due("the least", heldAtVersionThree(Long.MIN_VALUE), 4);
    }

    @Says("FREE: no SOUND root (RIGHT or not) has it: root and leaf are not RIGHT")
    static void heldByARootThatIsNotRight() {
        Book book = versions(16, 3);
        book.pokeRoot(3, 19, 1);
        book.poke(1, 15, 1);
        due("free", book.free(), 13);
    }

    @Says("FREE: no SOUND root has it: a root that is not SOUND has no page")
    static void freeOfARootThatIsNotSound() {
        Book book = versions(16, 3);
        book.pokeRoot(3, 1, 16);
        due("free", book.free(), 14);
    }

    @Says("FREE: a page that several roots have, and one root several times")
    static void heldBySeveralRoots() {
        Book book = versions(8, 3);
        book.setRoot(5, Words.root(0, 0, 1, 1, 2, 1));
        due("free", book.free(), 5);
    }

    @Says("FREE: none, all")
    static void freeNoneAndAll() {
        due("empty", new Book(8).free(), 8);
        due("full", versions(8, 8).free(), 0);
        due("the last page of 64", 64 - holdingTheLastPages().free(), 17);
    }

    // ---- AN ACT, PUT, DROP

    @Says("AN ACT makes the version NEWEST + 1 from NEWEST: not from a version above it that is told still")
    static void actFromNewest() {
        Book book = Book.of(16, 1, 2, 3);
        book.poke(2, 2, 1);
        due("reopen", book.reopen(), 2);
        book.poke(2, 2, 1);
        due("put", book.put(9, 90), 3);
        due("keys", book.keys(3), List.of(1, 2, 9));
        rootIs(book, 3, Words.root(3, 3, 2));
    }

    @Says("AN ACT makes the version NEWEST + 1 from NEWEST: above 1000000000, which is never OPENED")
    static void actAboveWhatIsOpened() {
        Book book = Book.of(16, 5);
        book.setRoot(0, Words.root(1000000000L, 1, 0));
        due("reopen", book.reopen(), 1000000000);
        due("put", book.put(6, 60), 1000000001);
        due("version", book.version(), 1000000001);
        due("it is KEPT", book.keys(1000000001), List.of(5, 6));
        rootIs(book, 1, Words.root(1000000001L, 2, 1));
        due("reopen then", book.reopen(), 1000000000);
        due("keys", book.keys(1000000000), List.of(5));
    }

    @Says("PUT: a new leaf, if there are no leaves")
    static void putWithoutLeaves() {
        Book book = new Book(8);
        due("at first", book.put(5, 50), 1);
        rootIs(book, 1, Words.root(1, 1, 0));
        pageIs(book, 0, Words.leaf(5, 50));
        book.drop(5);
        due("when all went", book.put(6, 60), 3);
        rootIs(book, 3, Words.root(3, 1, 1));
        pageIs(book, 1, Words.leaf(6, 60));
    }

    @Says("PUT: the first leaf, if no first key is not above the key")
    static void putBelowAllKeys() {
        Book book = twoLeaves();
        book.put(9, 1);
        leafIs(book, 1, 0, Words.leaf(9, 1, 10, 100, 20, 200, 30, 300, 40, 400));
        due("the other stays", book.leaf(1, 1), book.leaf(0, 1));
    }

    @Says("PUT: into the leaf with the greatest first key that is not above the key: the key itself")
    static void putAtAFirstKey() {
        Book book = twoLeaves();
        book.put(50, 1);
        leafIs(book, 1, 1, Words.leaf(50, 1, 60, 600, 70, 700, 80, 800));
        due("the other stays", book.leaf(1, 0), book.leaf(0, 0));
    }

    @Says("PUT: into the leaf with the greatest first key that is not above the key: one below a first key")
    static void putOneBelowAFirstKey() {
        Book book = twoLeaves();
        book.put(49, 1);
        leafIs(book, 1, 0, Words.leaf(10, 100, 20, 200, 30, 300, 40, 400, 49, 1));
        due("the other stays", book.leaf(1, 1), book.leaf(0, 1));
    }

    @Says("PUT: into the leaf with the greatest first key that is not above the key: one above a first key")
    static void putOneAboveAFirstKey() {
        Book book = twoLeaves();
        book.put(51, 1);
        leafIs(book, 1, 1, Words.leaf(50, 500, 51, 1, 60, 600, 70, 700, 80, 800));
        due("the other stays", book.leaf(1, 0), book.leaf(0, 0));
    }

    @Says("PUT: into the leaf with the greatest first key that is not above the key: above all keys")
    static void putAboveAllKeys() {
        Book book = twoLeaves();
        book.put(81, 1);
        leafIs(book, 1, 1, Words.leaf(50, 500, 60, 600, 70, 700, 80, 800, 81, 1));
        due("the other stays", book.leaf(1, 0), book.leaf(0, 0));
    }

    @Says("PUT: an ENTRY of that key gets the value: in a leaf of 7 that makes no 8")
    static void putAKeyOfAFullLeaf() {
        for (int key : new int[] {10, 40, 70}) {
            Book book = Book.of(16, 10, 20, 30, 40, 50, 60, 70);
            book.put(key, -1);
            rootIs(book, 0, Words.root(8, 7, 7));
            due("value", book.wordAt(7, key / 5), -1);
            due("keys", book.keys(8), List.of(10, 20, 30, 40, 50, 60, 70));
        }
    }

    @Says("PUT: an ENTRY of that key gets the value: the value that it has makes a version, too")
    static void putTheSameAgain() {
        Book book = Book.of(8, 5);
        due("put", book.put(5, 50), 2);
        pageIs(book, 1, Words.leaf(5, 50));
    }

    @Says("PUT: 7 ENTRIES make one leaf still")
    static void putTheSeventh() {
        due("leaves", Book.of(16, 10, 20, 30, 40, 50, 60, 70).count(7, 1), 1);
    }

    @Says("PUT: 8 ENTRIES, the first 4 make one leaf, the others one behind it: the new one is the first")
    static void putTheEighthAsTheFirst() {
        eighthMakes(5, Words.leaf(5, 50, 10, 100, 20, 200, 30, 300), Words.leaf(40, 400, 50, 500, 60, 600, 70, 700));
    }

    @Says("PUT: 8 ENTRIES, the first 4 make one leaf, the others one behind it: the new one is the fourth")
    static void putTheEighthAsTheFourth() {
        eighthMakes(35, Words.leaf(10, 100, 20, 200, 30, 300, 35, 350), Words.leaf(40, 400, 50, 500, 60, 600, 70, 700));
    }

    @Says("PUT: 8 ENTRIES, the first 4 make one leaf, the others one behind it: the new one is the fifth")
    static void putTheEighthAsTheFifth() {
        eighthMakes(45, Words.leaf(10, 100, 20, 200, 30, 300, 40, 400), Words.leaf(45, 450, 50, 500, 60, 600, 70, 700));
    }

    @Says("PUT: 8 ENTRIES, the first 4 make one leaf, the others one behind it: the new one is the last")
    static void putTheEighthAsTheLast() {
        eighthMakes(75, Words.leaf(10, 100, 20, 200, 30, 300, 40, 400), Words.leaf(50, 500, 60, 600, 70, 700, 75, 750));
    }

    @Says("PUT: 8 ENTRIES, the others one behind it: of the first, a middle, the last leaf")
    static void putTheEighthInEachLeaf() {
        for (int leaf = 0; leaf < 3; leaf++) {
            Book book = threeLeaves();
            long[] was = book.root(4);
            int first = 10 + 40 * leaf;
            for (int key = first + 1; key <= first + 4; key++) {
                book.put(key, key * 10L);
            }
            int at = leaf;
            long[] is = book.root(0);
            due("root", Words.text(is), Words.text(Words.root(16, 16, book.leaf(0, 0), book.leaf(0, 1), book.leaf(0, 2),
                book.leaf(0, 3))));
            for (int k = 0; k < 3; k++) {
                if (k != at) {
                    due("leaf " + k + " stays", is[2 + k + (k > at ? 1 : 0)], was[2 + k]);
                }
            }
            leafIs(book, 0, at, Words.leaf(first, first * 10, first + 1, first * 10 + 10, first + 2, first * 10 + 20,
                first + 3, first * 10 + 30));
            leafIs(book, 0, at + 1, Words.leaf(first + 4, first * 10 + 40, first + 10, first * 10 + 100, first + 20,
                first * 10 + 200, first + 30, first * 10 + 300));
        }
    }

    @Says("DROP a key: out of its leaf: the first, a middle, the last ENTRY")
    static void dropOutOfALeaf() {
        droppingLeaves(10, 20, 200, 30, 300);
        droppingLeaves(20, 10, 100, 30, 300);
        droppingLeaves(30, 10, 100, 20, 200);
    }

    @Says("DROP a key: out of its leaf: the first key of the second leaf, the last of the first")
    static void dropBetweenLeaves() {
        Book book = twoLeaves();
        book.drop(50);
        rootIs(book, 1, Words.root(9, 7, book.leaf(0, 0), book.leaf(1, 1)));
        leafIs(book, 1, 1, Words.leaf(60, 600, 70, 700, 80, 800));
        book.drop(40);
        rootIs(book, 2, Words.root(10, 6, book.leaf(2, 0), book.leaf(1, 1)));
        leafIs(book, 2, 0, Words.leaf(10, 100, 20, 200, 30, 300));
    }

    @Says("DROP: its leaf, which goes when nothing is left of it: one ENTRY is left")
    static void dropDownToOne() {
        Book book = Book.of(16, 10, 20);
        book.drop(10);
        rootIs(book, 3, Words.root(3, 1, 2));
        pageIs(book, 2, Words.leaf(20, 200));
    }

    @Says("DROP: its leaf, which goes when nothing is left of it: the only leaf")
    static void dropTheOnlyLeaf() {
        Book book = Book.of(16, 10);
        book.drop(10);
        rootIs(book, 2, Words.root(2, 0));
        due("free", book.free(), 15);
        pageIs(book, 1, new long[16]);
    }

    @Says("DROP: its leaf, which goes when nothing is left of it: the first, a middle, the last leaf")
    static void dropEachLeaf() {
        for (int leaf = 0; leaf < 3; leaf++) {
            Book book = threeLeaves();
            long[] was = book.root(4);
            for (int key = 10 + 40 * leaf; key <= 40 + 40 * leaf; key += 10) {
                book.drop(key);
            }
            rootIs(book, 0, Words.root(16, 8, was[leaf == 0 ? 3 : 2], was[leaf == 2 ? 3 : 4]));
        }
    }

    // ---- WRITTEN

    @Says("WRITTEN: each on the least page that is FREE: between pages that are not")
    static void leastFreePage() {
        Book book = Book.of(16, 10);
        book.setRoot(5, Words.root(0, 0, 1, 2, 4));
        book.put(20, 200);
        rootIs(book, 2, Words.root(2, 2, 3));
    }

    @Says("WRITTEN: each on the least page that is FREE and not taken by it before: two new leaves")
    static void leastFreePagesOfTwo() {
        Book book = Book.of(16, 10, 20, 30, 40, 50, 60, 70);
        book.setRoot(0, Words.root(0, 0, 8, 9, 11));
        book.put(80, 800);
        rootIs(book, 0, Words.root(8, 8, 7, 10));
        pageIs(book, 7, Words.leaf(10, 100, 20, 200, 30, 300, 40, 400));
        pageIs(book, 10, Words.leaf(50, 500, 60, 600, 70, 700, 80, 800));
    }

    @Says("WRITTEN: the last page is taken, too")
    static void lastFreePage() {
        Book book = versions(8, 7);
        book.put(5, 8);
        rootIs(book, 0, Words.root(8, 1, 7));
        Book two = Book.of(9, 10, 20, 30, 40, 50, 60, 70);
        two.put(80, 800);
        rootIs(two, 0, Words.root(8, 8, 7, 8));
    }

    @Says("WRITTEN: the pages of the version whose root is written over are not FREE before")
    static void pagesOfTheVersionThatGoes() {
        Book book = versions(16, 8);
        book.put(5, 9);
        rootIs(book, 1, Words.root(9, 1, 8));
        pageIs(book, 0, Words.leaf(5, 1));
        book.put(5, 10);
        rootIs(book, 2, Words.root(10, 1, 0));
        pageIs(book, 0, Words.leaf(5, 10));
    }

    @Says("WRITTEN: then the root of the new version's number modulo 8: 7, 8, 9, 16")
    static void rootsComeRound() {
        Book book = versions(16, 7);
        due("7", book.rootAt(7, 0), 7);
        due("before 8", book.rootAt(0, 0), 0);
        book.put(5, 8);
        due("8", book.rootAt(0, 0), 8);
        due("before 9", book.rootAt(1, 0), 1);
        book.put(5, 9);
        due("9", book.rootAt(1, 0), 9);
        Book more = versions(16, 16);
        due("16", more.rootAt(0, 0), 16);
        due("15", more.rootAt(7, 0), 15);
    }

    // ---- CUT

    @Says("CUT at k: only the first k words are as it wrote them, the others as they were before: one leaf")
    static void cutOneLeaf() {
        for (int k = 0; k <= 37; k++) {
            cut(1, 36, k);
        }
        cut(1, 36, Integer.MAX_VALUE);
    }

    @Says("CUT at k: only the first k words are as it wrote them, the others as they were before: two leaves")
    static void cutTwoLeaves() {
        for (int k = 0; k <= 53; k++) {
            cut(2, 52, k);
        }
        cut(2, 52, Integer.MAX_VALUE);
    }

    @Says("CUT at k: only the first k words are as it wrote them, the others as they were before: no leaf")
    static void cutNoLeaf() {
        for (int k = 0; k <= 21; k++) {
            cut(0, 20, k);
        }
        cut(0, 20, Integer.MAX_VALUE);
    }

    @Says("CUT: the book is CLOSED then: though no word, though every word was written")
    static void closedByACut() {
        for (int k : new int[] {0, 35, 36, 37, Integer.MAX_VALUE}) {
            Book book = Book.of(8, 5);
            book.crash(k);
            refused(book, "version behind crash(" + k + ")", STATE, book::version);
        }
    }

    // ---- OPENED

    @Says("OPENED: the greatest version (0 .. 1000000000) that a RIGHT root tells: 1000000000")
    static void openedAtTheGreatest() {
        due("reopen", openedWith(0, Words.root(1000000000L, 3, 1, 2)), 1000000000);
        due("one less", openedWith(7, Words.root(999999999L, 3, 1, 2)), 999999999);
    }

    @Says("OPENED: the greatest version (0 .. 1000000000) that a RIGHT root tells: 1000000001 is too large")
    static void openedAtNoneAboveTheGreatest() {
        due("reopen", openedWith(1, Words.root(1000000001L, 3, 1, 2)), 0);
        due("eight more", openedWith(0, Words.root(1000000008L, 3, 1, 2)), 0);
    }

    @Says("OPENED: the greatest version (0 .. 1000000000) that a RIGHT root tells: a long that no int holds is too large")
    static void openedAtNoneBeyondInt() {
        due("reopen", openedWith(1, Words.root(BEYOND_INT + 9, 3, 1, 2)), 0);
        due("the greatest long", openedWith(7, Words.root(Long.MAX_VALUE, 3, 1, 2)), 0);
    }

    @Says("OPENED: the greatest version (0 .. 1000000000) that a RIGHT root tells: -1 and -8 are too small")
    static void openedAtNoneBelowZero() {
        due("-1", openedWith(7, Words.root(-1, 3, 1, 2)), 0);
        due("-8", openedWith(0, Words.root(-8, 3, 1, 2)), 0);
        due("no int holds it", openedWith(1, Words.root(9 - BEYOND_INT, 3, 1, 2)), 0);
        due("the least long", openedWith(0, Words.root(Long.MIN_VALUE, 3, 1, 2)), 0);
    }

    @Says("OPENED: the greatest version (0 .. 1000000000) that a RIGHT root tells: 0, with what it has")
    static void openedAtZero() {
        Book book = new Book(16);
        book.setPage(1, Words.leaf(10, 1, 20, 2));
        book.setRoot(0, Words.root(0, 2, 1));
        book.setRoot(1, Words.root(-7, 2, 1));
        due("reopen", book.reopen(), 0);
        due("keys", book.keys(0), List.of(10, 20));
        rootIs(book, 0, Words.root(0, 2, 1));
    }

    @Says("OPENED: a root which stands where it should (its number modulo 8): one too far, one too near")
    static void openedAtNoneThatStandsElsewhere() {
        due("root 2", openedWith(2, Words.root(1, 3, 1, 2)), 0);
        due("root 0", openedWith(0, Words.root(1, 3, 1, 2)), 0);
        due("root 7", openedWith(7, Words.root(8, 3, 1, 2)), 0);
        due("where it should", openedWith(7, Words.root(15, 3, 1, 2)), 15);
    }

    @Says("OPENED: the greatest version that a RIGHT root tells: the greatest of several, wherever it stands")
    static void openedAtTheGreatestOfSeveral() {
        Book book = versions(16, 12);
        due("12", book.reopen(), 12);
        for (int version = 12; version > 5; version--) {
            book.pokeRoot(version % 8, 18, 1);
            due("without " + version, book.reopen(), version - 1);
        }
    }

    @Says("OPENED: if there is none, root 0 is made anew, with nothing, and NEWEST is 0")
    static void openedAtNone() {
        Book book = versions(16, 9);
        for (int root = 0; root < 8; root++) {
            book.pokeRoot(root, 19, 1);
        }
        long[] want = book.words();
        System.arraycopy(Words.root(0, 0), 0, want, 16 * 16, 20);
        due("reopen", book.reopen(), 0);
        due("words", Words.text(book.words()), Words.text(want));
        due("version", book.version(), 0);
        due("entries", book.count(0, 0), 0);
        due("put", book.put(7, 7), 1);
    }

    @Says("OPENED: if there is none, root 0 is made anew: every word of it was altered")
    static void openedAtNoneWithAnAlteredRoot() {
        Book book = new Book(8);
        book.setRoot(0, filled(20, -1));
        due("reopen", book.reopen(), 0);
        rootIs(book, 0, Words.root(0, 0));
        book.setRoot(0, new long[20]);
        due("all words 0", book.reopen(), 0);
        rootIs(book, 0, Words.root(0, 0));
    }

    // ---- help

    private static long[] filled(int many, long word) {
        long[] words = new long[many];
        Arrays.fill(words, word);
        return words;
    }

    private static long[] flipped(long[] words, int i, int bit) {
        words[i] ^= 1L << bit;
        return words;
    }

    /** The key 5 with the values 1 .. n: version v is on page v - 1 as long as there are pages. */
    private static Book versions(int pages, int n) {
        Book book = new Book(pages);
        for (int v = 1; v <= n; v++) {
            book.put(5, v);
        }
        return book;
    }

    /** Version 8, root 0: 10 .. 40 and 50 .. 80. */
    private static Book twoLeaves() {
        return Book.of(64, 10, 20, 30, 40, 50, 60, 70, 80);
    }

    /** Version 12, root 4: 10 .. 40, 50 .. 80 and 90 .. 120. */
    private static Book threeLeaves() {
        return Book.of(64, 10, 20, 30, 40, 50, 60, 70, 80, 90, 100, 110, 120);
    }

    /** Version 67, root 3: fifteen leaves of four keys and one of seven. */
    private static Book sixteenLeaves() {
        Book book = new Book(64);
        for (int key = 0; key < 67; key++) {
            book.put(key, key * 10L);
        }
        return book;
    }

    /** A book of 64 pages, of which version 1 has page 0 and a root of version 0 the last sixteen. */
    private static Book holdingTheLastPages() {
        Book book = Book.of(64, 5);
        long[] leaves = new long[16];
        for (int k = 0; k < 16; k++) {
            leaves[k] = 48 + k;
        }
        book.setRoot(2, Words.root(0, 0, leaves));
        return book;
    }

    /** The only leaf of version 1 gets these words, and its root the number of entries that goes with them. */
    private static Book leafOfVersionOne(long... page) {
        Book book = Book.of(16, 5);
        book.setPage(0, page);
        book.setRoot(1, Words.root(1, page[0], 0));
        return book;
    }

    private static void pageIsRight(long... page) {
        Book book = leafOfVersionOne(page);
        due("badAt with " + Words.text(page), book.badAt(), LeafBook.NONE);
        due("count with " + Words.text(page), answer(() -> book.count(1, 0)), (int) page[0]);
        due("reopen with " + Words.text(page), book.reopen(), 1);
    }

    private static void pageIsNotRight(long... page) {
        Book book = leafOfVersionOne(page);
        due("badAt with " + Words.text(page), book.badAt(), 0);
        due("count with " + Words.text(page), answer(() -> book.count(1, 0)), INDEX);
        due("put with " + Words.text(page), answer(() -> book.put(5, 5)), STATE);
        due("reopen with " + Words.text(page), book.reopen(), 0);
    }

    /** How many of eight pages are not FREE by a root of these words; its VERSION is 0, so only SOUND decides. */
    private static int heldBy(long... root) {
        Book book = new Book(8);
        book.setRoot(3, root);
        return 8 - book.free();
    }

    /** At version 3, which holds pages 0 to 2 of 8, a root of this VERSION has page 5. */
    private static int heldAtVersionThree(long version) {
        Book book = versions(8, 3);
        book.setRoot(6, Words.root(version, 1, 5));
        return 8 - book.free();
    }

    private static int openedWith(long... root) {
        return openedWith(1, root);
    }

    /** What reopen() answers if one root is altered in a new book: 0 if it is not found. Page 6 is not RIGHT. */
    private static int openedWith(int at, long... root) {
        Book book = new Book(16);
        book.setPage(1, Words.leaf(10, 1, 20, 2));
        book.setPage(2, Words.leaf(21, 3));
        book.setPage(3, Words.leaf(20, 3));
        book.setPage(4, Words.leaf());
        book.setPage(5, Words.leaf(15, 3));
        book.setPage(6, flipped(Words.leaf(30, 1), 2, 0));
        book.setPage(7, Words.leaf(40, 1, 50, 2));
        book.setRoot(at, root);
        return book.reopen();
    }

    private static void eighthMakes(int key, long[] first, long[] second) {
        Book book = Book.of(16, 10, 20, 30, 40, 50, 60, 70);
        book.put(key, key * 10L);
        rootIs(book, 0, Words.root(8, 8, 7, 8));
        pageIs(book, 7, first);
        pageIs(book, 8, second);
    }

    private static void droppingLeaves(int key, long... left) {
        Book book = Book.of(16, 10, 20, 30);
        due("drop", book.drop(key), 4);
        pageIs(book, 3, Words.leaf(left));
        rootIs(book, 4, Words.root(4, 2, 3));
    }

    /** The writing of version 8 with so many new leaves is cut; pages 7, 8 and root 0 had other words before. */
    private static void cut(int newLeaves, int total, int k) {
        Book book = newLeaves == 0 ? versions(16, 7) : Book.of(16, 10, 20, 30, 40, 50, 60, 70);
        book.setPage(7, filled(16, -77));
        book.setPage(8, filled(16, -88));
        book.setRoot(0, filled(20, -99));
        long[] want = book.words();
        int version = newLeaves == 0 ? book.drop(5) : book.put(newLeaves == 1 ? 70 : 80, 1);
        due("the act", version, 8);
        long[] after = book.words();
        for (int n = 0; n < Math.min(k, total); n++) {
            int ofRoot = n - 16 * newLeaves;
            int at = ofRoot < 0 ? 7 * 16 + n : 16 * 16 + ofRoot;
            want[at] = after[at];
        }
        due("crash(" + k + ")", book.crash(k), total);
        due("words behind crash(" + k + ")", Words.text(book.words()), Words.text(want));
        due("reopen behind crash(" + k + ")", book.reopen(), k < total ? 7 : 8);
    }
}
