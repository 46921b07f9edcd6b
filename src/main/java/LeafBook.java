/**
 * Things by keys in leaves of a book that are never changed but copied; a row of eight roots tells
 * the versions. The words in capitals of the document (RIGHT, SOUND, KEPT, FREE ..) are used here
 * in the same sense.
 */
public final class LeafBook {
    public static final int NONE = -1;

    private static final int LEAST_PAGES = 8;
    private static final int MOST_PAGES = 64;
    private static final int PAGE_WORDS = 16;
    private static final int PAGE_SUM = 15;
    private static final int MOST_ENTRIES = 7;
    private static final int FIRST_HALF = 4;

    private static final int ROOTS = 8;
    private static final int ROOT_WORDS = 20;
    private static final int LEAF_COUNT = 1;
    private static final int FIRST_LEAF = 2;
    private static final int MOST_LEAVES = 16;
    private static final int ENTRY_COUNT = 18;
    private static final int ROOT_SUM = 19;

    private static final int MOST_KEY = 1000000;
    private static final long MOST_OPENED = 1000000000L;
    private static final int BAD_ROOT = 100;
    private static final int MOST_NEW_LEAVES = 2;
    private static final long SUM_FACTOR = 0x9E3779B97F4A7C15L;

    private final int pageCount;
    private final long[] pages;
    private final long[] roots;
    private int newest;
    private boolean closed;

    // The latest ACT, as far as crash() may still cut it.
    private boolean canBeCut;
    private final int[] takenPages;
    private int takenCount;
    private int writtenRoot;
    private final long[] wordsBefore;

    // The changed leaf of an ACT before it is WRITTEN: one entry more than a page can have.
    private final long[] draftKeys;
    private final long[] draftValues;
    private int draftCount;

    public LeafBook(int pages) {
        this.pageCount = Math.max(LEAST_PAGES, Math.min(MOST_PAGES, pages));
        this.pages = new long[this.pageCount * PAGE_WORDS];
        this.roots = new long[ROOTS * ROOT_WORDS];
        this.takenPages = new int[MOST_NEW_LEAVES];
        this.wordsBefore = new long[MOST_NEW_LEAVES * PAGE_WORDS + ROOT_WORDS];
        this.draftKeys = new long[MOST_ENTRIES + 1];
        this.draftValues = new long[MOST_ENTRIES + 1];
        makeRootZeroAnew();
    }

    public int put(int key, long value) throws IllegalStateException, IllegalArgumentException {
        requireWritable();
        requireKey(key);
        int root = rootOf(newest);
        int leaf = leafFor(root, key);
        loadDraft(root, leaf);
        putInDraft(key, value);
        return act(root, leaf);
    }

    public int drop(int key) throws IllegalStateException, IllegalArgumentException {
        requireWritable();
        requireKey(key);
        int root = rootOf(newest);
        int leaf = leafFor(root, key);
        loadDraft(root, leaf);
        if (!dropFromDraft(key)) {
            return 0;
        }
        return act(root, leaf);
    }

    public int version() throws IllegalStateException {
        requireOpen();
        return newest;
    }

    public boolean has(int version, int key) throws IllegalStateException, IndexOutOfBoundsException {
        requireOpen();
        requireKept(version);
        return entryWithKey(rootOf(version), key) != NONE;
    }

    public long find(int version, int key) throws IllegalStateException, IndexOutOfBoundsException {
        requireOpen();
        requireKept(version);
        int entry = entryWithKey(rootOf(version), key);
        return entry == NONE ? 0L : pages[entry + 1];
    }

    public int count(int version, int what)
            throws IllegalStateException, IndexOutOfBoundsException, IllegalArgumentException {
        requireOpen();
        requireKept(version);
        if (what != 0 && what != 1) {
            throw new IllegalArgumentException("what is not 0 or 1");
        }
        int root = rootOf(version);
        return what == 0 ? entriesOfRoot(root) : leavesOf(root);
    }

    public int key(int version, int k) throws IllegalStateException, IndexOutOfBoundsException {
        requireOpen();
        requireKept(version);
        int entry = entryByNumber(rootOf(version), k);
        if (entry == NONE) {
            throw new IndexOutOfBoundsException("no such entry");
        }
        return (int) pages[entry];
    }

    public boolean same(int version, int other) throws IllegalStateException, IndexOutOfBoundsException {
        requireOpen();
        requireKept(version);
        requireKept(other);
        return haveSameEntries(rootOf(version), rootOf(other));
    }

    public int free() throws IllegalStateException {
        requireOpen();
        return pageCount - Long.bitCount(heldPages());
    }

    public int crash(int k) throws IllegalStateException, IllegalArgumentException {
        requireOpen();
        if (!canBeCut) {
            throw new IllegalStateException("no writing that can be cut");
        }
        if (k < 0) {
            throw new IllegalArgumentException("k is below 0");
        }
        // NEWEST stays: only opening the book anew says which version counts then.
        restoreFrom(k);
        closed = true;
        return writtenWords();
    }

    public int reopen() {
        int greatest = greatestWhole();
        if (greatest == NONE) {
            makeRootZeroAnew();
            greatest = 0;
        }
        newest = greatest;
        closed = false;
        canBeCut = false;
        return newest;
    }

    public long wordAt(int page, int i) throws IndexOutOfBoundsException {
        requirePageWord(page, i);
        return pages[page * PAGE_WORDS + i];
    }

    public long rootAt(int root, int i) throws IndexOutOfBoundsException {
        requireRootWord(root, i);
        return roots[root * ROOT_WORDS + i];
    }

    public void poke(int page, int i, long mask) throws IndexOutOfBoundsException, IllegalArgumentException {
        requirePageWord(page, i);
        requireMask(mask);
        pages[page * PAGE_WORDS + i] ^= mask;
        canBeCut = false;
    }

    public void pokeRoot(int root, int i, long mask) throws IndexOutOfBoundsException, IllegalArgumentException {
        requireRootWord(root, i);
        requireMask(mask);
        roots[root * ROOT_WORDS + i] ^= mask;
        canBeCut = false;
    }

    public int badAt() {
        long held = heldPages();
        for (int page = 0; page < pageCount; page++) {
            if (isIn(held, page) && !isRightPage(page)) {
                return page;
            }
        }
        for (int root = 0; root < ROOTS; root++) {
            if (!isBlankRoot(root) && !hasRootSum(root)) {
                return BAD_ROOT + root;
            }
        }
        return NONE;
    }

    // ---- what a call asks for before it does anything

    private void requireOpen() {
        if (closed) {
            throw new IllegalStateException("the book is closed");
        }
    }

    private void requireWritable() {
        requireOpen();
        if (!isKept(newest)) {
            throw new IllegalStateException("the newest version is not kept");
        }
    }

    private void requireKey(int key) {
        if (key < 0 || key > MOST_KEY) {
            throw new IllegalArgumentException("key is not 0 .. 1000000");
        }
    }

    private void requireKept(int version) {
        if (!isKept(version)) {
            throw new IndexOutOfBoundsException("the version is not kept");
        }
    }

    private void requirePageWord(int page, int i) {
        if (page < 0 || page >= pageCount || i < 0 || i >= PAGE_WORDS) {
            throw new IndexOutOfBoundsException("no such page or word");
        }
    }

    private void requireRootWord(int root, int i) {
        if (root < 0 || root >= ROOTS || i < 0 || i >= ROOT_WORDS) {
            throw new IndexOutOfBoundsException("no such root or word");
        }
    }

    private void requireMask(long mask) {
        if (mask == 0L) {
            throw new IllegalArgumentException("mask is 0");
        }
    }

    // ---- whether words are as they should be: asked anew at each call and trusting no word, as poke may alter any

    private static long sumOf(long[] words, int from, int many) {
        long s = 0L;
        for (int i = from; i < from + many; i++) {
            long mixed = s ^ words[i];
            s = ((mixed << 5) | (mixed >>> 59)) * SUM_FACTOR;
        }
        return s ^ 1L;
    }

    private boolean isRightPage(int page) {
        int base = page * PAGE_WORDS;
        long entries = pages[base];
        if (entries < 0L || entries > MOST_ENTRIES) {
            return false;
        }
        long before = -1L;
        for (int k = 0; k < entries; k++) {
            long key = pages[base + 1 + 2 * k];
            if (key <= before || key > MOST_KEY) {
                return false;
            }
            before = key;
        }
        return pages[base + PAGE_SUM] == sumOf(pages, base, PAGE_SUM);
    }

    private boolean hasRootSum(int root) {
        int base = root * ROOT_WORDS;
        return roots[base + ROOT_SUM] == sumOf(roots, base, ROOT_SUM);
    }

    private boolean isBlankRoot(int root) {
        int base = root * ROOT_WORDS;
        for (int i = 0; i < ROOT_SUM; i++) {
            if (roots[base + i] != 0L) {
                return false;
            }
        }
        return true;
    }

    private boolean isSound(int root) {
        int base = root * ROOT_WORDS;
        long leaves = roots[base + LEAF_COUNT];
        if (leaves < 0L || leaves > MOST_LEAVES) {
            return false;
        }
        for (int k = 0; k < leaves; k++) {
            long page = roots[base + FIRST_LEAF + k];
            if (page < 0L || page >= pageCount) {
                return false;
            }
        }
        return true;
    }

    private boolean isRightRoot(int root) {
        return hasRootSum(root) && isSound(root) && hasRightLeaves(root);
    }

    /** Only for a SOUND root. */
    private boolean hasRightLeaves(int root) {
        long before = -1L;
        long entries = 0L;
        int leaves = leavesOf(root);
        for (int leaf = 0; leaf < leaves; leaf++) {
            int page = pageOf(root, leaf);
            if (!isRightPage(page) || entriesOf(page) == 0) {
                return false;
            }
            if (firstKey(page) <= before) {
                return false;
            }
            before = lastKey(page);
            entries += entriesOf(page);
        }
        return roots[root * ROOT_WORDS + ENTRY_COUNT] == entries;
    }

    private boolean isKept(int version) {
        int root = rootOf(version);
        return version <= newest && roots[root * ROOT_WORDS] == version && isRightRoot(root);
    }

    /** The pages that are not FREE: there are at most 64, so a bit each. */
    private long heldPages() {
        long held = 0L;
        for (int root = 0; root < ROOTS; root++) {
            if (roots[root * ROOT_WORDS] <= newest && isSound(root)) {
                held |= pagesOf(root);
            }
        }
        return held;
    }

    private long pagesOf(int root) {
        long had = 0L;
        int leaves = leavesOf(root);
        for (int leaf = 0; leaf < leaves; leaf++) {
            had |= 1L << pageOf(root, leaf);
        }
        return had;
    }

    private static boolean isIn(long set, int page) {
        return (set >>> page & 1L) != 0L;
    }

    private int greatestWhole() {
        long greatest = NONE;
        for (int root = 0; root < ROOTS; root++) {
            long told = roots[root * ROOT_WORDS];
            boolean better = told > greatest && told <= MOST_OPENED;
            if (better && rootOf((int) told) == root && isRightRoot(root)) {
                greatest = told;
            }
        }
        return (int) greatest;
    }

    // ---- reading: leavesOf, pageOf and pagesOf only of SOUND roots, the others only of RIGHT ones or their pages

    private static int rootOf(int version) {
        return Math.floorMod(version, ROOTS);
    }

    private int leavesOf(int root) {
        return (int) roots[root * ROOT_WORDS + LEAF_COUNT];
    }

    private int pageOf(int root, int leaf) {
        return (int) roots[root * ROOT_WORDS + FIRST_LEAF + leaf];
    }

    private int entriesOfRoot(int root) {
        return (int) roots[root * ROOT_WORDS + ENTRY_COUNT];
    }

    private int entriesOf(int page) {
        return (int) pages[page * PAGE_WORDS];
    }

    /** Where the key of an entry stands among the words of all pages; its value stands behind it. */
    private static int entryAt(int page, int k) {
        return page * PAGE_WORDS + 1 + 2 * k;
    }

    private long firstKey(int page) {
        return pages[entryAt(page, 0)];
    }

    private long lastKey(int page) {
        return pages[entryAt(page, entriesOf(page) - 1)];
    }

    private int leafFor(int root, int key) {
        int leaves = leavesOf(root);
        if (leaves == 0) {
            return NONE;
        }
        int found = 0;
        for (int leaf = 1; leaf < leaves; leaf++) {
            if (firstKey(pageOf(root, leaf)) <= key) {
                found = leaf;
            }
        }
        return found;
    }

    private int entryWithKey(int root, int key) {
        int leaf = leafFor(root, key);
        if (leaf == NONE) {
            return NONE;
        }
        int page = pageOf(root, leaf);
        int entries = entriesOf(page);
        for (int k = 0; k < entries; k++) {
            if (pages[entryAt(page, k)] == key) {
                return entryAt(page, k);
            }
        }
        return NONE;
    }

    private int entryByNumber(int root, int number) {
        if (number < 0) {
            return NONE;
        }
        int left = number;
        int leaves = leavesOf(root);
        for (int leaf = 0; leaf < leaves; leaf++) {
            int page = pageOf(root, leaf);
            int entries = entriesOf(page);
            if (left < entries) {
                return entryAt(page, left);
            }
            left -= entries;
        }
        return NONE;
    }

    private boolean haveSameEntries(int root, int other) {
        int entries = entriesOfRoot(root);
        if (entries != entriesOfRoot(other)) {
            return false;
        }
        for (int k = 0; k < entries; k++) {
            int one = entryByNumber(root, k);
            int two = entryByNumber(other, k);
            if (one == NONE || two == NONE || pages[one] != pages[two] || pages[one + 1] != pages[two + 1]) {
                return false;
            }
        }
        return true;
    }

    // ---- the draft

    private void loadDraft(int root, int leaf) {
        draftCount = 0;
        if (leaf == NONE) {
            return;
        }
        int page = pageOf(root, leaf);
        int entries = entriesOf(page);
        for (int k = 0; k < entries; k++) {
            draftKeys[k] = pages[entryAt(page, k)];
            draftValues[k] = pages[entryAt(page, k) + 1];
        }
        draftCount = entries;
    }

    private int placeInDraft(int key) {
        int place = 0;
        while (place < draftCount && draftKeys[place] < key) {
            place++;
        }
        return place;
    }

    private boolean draftHasAt(int place, int key) {
        return place < draftCount && draftKeys[place] == key;
    }

    private void putInDraft(int key, long value) {
        int place = placeInDraft(key);
        if (!draftHasAt(place, key)) {
            for (int k = draftCount; k > place; k--) {
                draftKeys[k] = draftKeys[k - 1];
                draftValues[k] = draftValues[k - 1];
            }
            draftCount++;
        }
        draftKeys[place] = key;
        draftValues[place] = value;
    }

    private boolean dropFromDraft(int key) {
        int place = placeInDraft(key);
        if (!draftHasAt(place, key)) {
            return false;
        }
        draftCount--;
        for (int k = place; k < draftCount; k++) {
            draftKeys[k] = draftKeys[k + 1];
            draftValues[k] = draftValues[k + 1];
        }
        return true;
    }

    // ---- an ACT: the draft takes the place of a leaf of the newest version's root

    private int act(int root, int leaf) {
        int newLeaves = draftCount > MOST_ENTRIES ? 2 : draftCount > 0 ? 1 : 0;
        int leavesGone = leaf == NONE ? 0 : 1;
        if (leavesOf(root) - leavesGone + newLeaves > MOST_LEAVES) {
            throw new IllegalStateException("17 leaves would be");
        }
        // Kept apart until both are found: an ACT that can't be must leave the latest one as it is.
        long held = heldPages();
        int first = newLeaves > 0 ? pageNotIn(held, 0) : 0;
        int second = newLeaves > 1 && first != NONE ? pageNotIn(held, first + 1) : 0;
        if (first == NONE || second == NONE) {
            throw new IllegalStateException("not pages enough");
        }
        takenPages[0] = first;
        takenPages[1] = second;
        takenCount = newLeaves;
        writtenRoot = rootOf(newest + 1);
        saveWordsBefore();
        writeLeaves();
        writeRoot(root, leaf);
        newest++;
        canBeCut = true;
        return newest;
    }

    private int pageNotIn(long held, int start) {
        for (int page = start; page < pageCount; page++) {
            if (!isIn(held, page)) {
                return page;
            }
        }
        return NONE;
    }

    private void writeLeaves() {
        if (takenCount == 1) {
            writeLeaf(takenPages[0], 0, draftCount);
        }
        if (takenCount == 2) {
            writeLeaf(takenPages[0], 0, FIRST_HALF);
            writeLeaf(takenPages[1], FIRST_HALF, draftCount);
        }
    }

    private void writeLeaf(int page, int from, int end) {
        int base = page * PAGE_WORDS;
        for (int i = 0; i < PAGE_WORDS; i++) {
            pages[base + i] = 0L;
        }
        pages[base] = end - from;
        for (int k = from; k < end; k++) {
            pages[entryAt(page, k - from)] = draftKeys[k];
            pages[entryAt(page, k - from) + 1] = draftValues[k];
        }
        pages[base + PAGE_SUM] = sumOf(pages, base, PAGE_SUM);
    }

    private void writeRoot(int root, int leaf) {
        int base = writtenRoot * ROOT_WORDS;
        int entriesGone = leaf == NONE ? 0 : entriesOf(pageOf(root, leaf));
        int leavesBefore = leaf == NONE ? 0 : leaf;
        int leaves = leavesOf(root);
        clearRoot(writtenRoot);
        int n = 0;
        for (int k = 0; k < leavesBefore; k++) {
            roots[base + FIRST_LEAF + n] = pageOf(root, k);
            n++;
        }
        for (int k = 0; k < takenCount; k++) {
            roots[base + FIRST_LEAF + n] = takenPages[k];
            n++;
        }
        for (int k = leavesBefore + 1; k < leaves; k++) {
            roots[base + FIRST_LEAF + n] = pageOf(root, k);
            n++;
        }
        roots[base] = newest + 1;
        roots[base + LEAF_COUNT] = n;
        roots[base + ENTRY_COUNT] = entriesOfRoot(root) - entriesGone + draftCount;
        roots[base + ROOT_SUM] = sumOf(roots, base, ROOT_SUM);
    }

    private void clearRoot(int root) {
        int base = root * ROOT_WORDS;
        for (int i = 0; i < ROOT_WORDS; i++) {
            roots[base + i] = 0L;
        }
    }

    private void makeRootZeroAnew() {
        clearRoot(0);
        roots[ROOT_SUM] = sumOf(roots, 0, ROOT_SUM);
    }

    // ---- the cut

    private int writtenWords() {
        return takenCount * PAGE_WORDS + ROOT_WORDS;
    }

    private void saveWordsBefore() {
        for (int k = 0; k < takenCount; k++) {
            System.arraycopy(pages, takenPages[k] * PAGE_WORDS, wordsBefore, k * PAGE_WORDS, PAGE_WORDS);
        }
        System.arraycopy(roots, writtenRoot * ROOT_WORDS, wordsBefore, takenCount * PAGE_WORDS, ROOT_WORDS);
    }

    private void restoreFrom(int k) {
        int pageWords = takenCount * PAGE_WORDS;
        int end = writtenWords();
        for (int i = k; i < end; i++) {
            if (i < pageWords) {
                pages[takenPages[i / PAGE_WORDS] * PAGE_WORDS + i % PAGE_WORDS] = wordsBefore[i];
            } else {
                roots[writtenRoot * ROOT_WORDS + i - pageWords] = wordsBefore[i];
            }
        }
    }
}
