import java.util.ArrayList;
import java.util.List;
import java.util.function.Function;

/**
 * A LeafBook that remembers its calls. Its words are read on other objects after the same calls, since the document
 * promises nothing behind an object's 512th call: a look at all of them must not use those calls up.
 */
final class Book {
    static final int MOST_CALLS = 512;
    private static final int PAGE_WORDS = 16;
    private static final int ROOT_WORDS = 20;

    private final int asked;
    private final int pages;
    private final LeafBook real;
    private final List<Function<LeafBook, Object>> calls = new ArrayList<>();

    Book(int asked) {
        this.asked = asked;
        this.pages = Math.max(8, Math.min(64, asked));
        this.real = new LeafBook(asked);
    }

    /** A book in which these keys were put in turn, each with ten times itself. */
    static Book of(int asked, int... keys) {
        Book book = new Book(asked);
        for (int key : keys) {
            book.put(key, key * 10L);
        }
        return book;
    }

    /** The like with one put more, which is cut before its first word. */
    static Book closed(int asked, int... keys) {
        Book book = of(asked, keys);
        book.put(1000000, 1);
        book.crash(0);
        return book;
    }

    private Object call(Function<LeafBook, Object> call) {
        if (calls.size() == MOST_CALLS) {
            throw new AssertionError("the test makes more than 512 calls on one object");
        }
        calls.add(call);
        return call.apply(real);
    }

    int calls() {
        return calls.size();
    }

    // ---- the face

    int put(int key, long value) {
        return (int) call(b -> b.put(key, value));
    }

    int drop(int key) {
        return (int) call(b -> b.drop(key));
    }

    int version() {
        return (int) call(LeafBook::version);
    }

    boolean has(int version, int key) {
        return (boolean) call(b -> b.has(version, key));
    }

    long find(int version, int key) {
        return (long) call(b -> b.find(version, key));
    }

    int count(int version, int what) {
        return (int) call(b -> b.count(version, what));
    }

    int key(int version, int k) {
        return (int) call(b -> b.key(version, k));
    }

    boolean same(int version, int other) {
        return (boolean) call(b -> b.same(version, other));
    }

    int free() {
        return (int) call(LeafBook::free);
    }

    int crash(int k) {
        return (int) call(b -> b.crash(k));
    }

    int reopen() {
        return (int) call(LeafBook::reopen);
    }

    long wordAt(int page, int i) {
        return (long) call(b -> b.wordAt(page, i));
    }

    long rootAt(int root, int i) {
        return (long) call(b -> b.rootAt(root, i));
    }

    /** Answers, so that a poke is written like the other calls. */
    String poke(int page, int i, long mask) {
        return (String) call(b -> {
            b.poke(page, i, mask);
            return "poked";
        });
    }

    String pokeRoot(int root, int i, long mask) {
        return (String) call(b -> {
            b.pokeRoot(root, i, mask);
            return "poked";
        });
    }

    int badAt() {
        return (int) call(LeafBook::badAt);
    }

    // ---- looks that are no calls on this object

    /** Another book after the same calls. */
    Book twin() {
        Book twin = new Book(asked);
        for (Function<LeafBook, Object> call : calls) {
            Check.answer(() -> twin.call(call));
        }
        return twin;
    }

    private long[] read(int from, int many) {
        long[] words = new long[many];
        LeafBook copy = null;
        int left = 0;
        for (int n = 0; n < many; n++) {
            if (left == 0) {
                copy = twin().real;
                left = MOST_CALLS - calls.size();
            }
            if (left == 0) {
                throw new AssertionError("the test leaves no call to read a word with");
            }
            words[n] = wordOf(copy, from + n);
            left--;
        }
        return words;
    }

    private long wordOf(LeafBook book, int n) {
        int ofRoots = n - pages * PAGE_WORDS;
        return ofRoots < 0 ? book.wordAt(n / PAGE_WORDS, n % PAGE_WORDS)
            : book.rootAt(ofRoots / ROOT_WORDS, ofRoots % ROOT_WORDS);
    }

    /** All words, those of the pages first. */
    long[] words() {
        return read(0, pages * PAGE_WORDS + 8 * ROOT_WORDS);
    }

    long[] page(int page) {
        return read(page * PAGE_WORDS, PAGE_WORDS);
    }

    long[] root(int root) {
        return read(pages * PAGE_WORDS + root * ROOT_WORDS, ROOT_WORDS);
    }

    int leaf(int root, int k) {
        return (int) root(root)[2 + k];
    }

    /** The words of the leaf's page. */
    long[] leafWords(int root, int k) {
        return page(leaf(root, k));
    }

    List<Integer> keys(int version) {
        Book twin = twin();
        List<Integer> all = new ArrayList<>();
        int many = twin.count(version, 0);
        for (int k = 0; k < many; k++) {
            all.add(twin.key(version, k));
        }
        return all;
    }

    /** All that later answers rest on: the words, NEWEST, whether it is CLOSED, and what a cut would take back. */
    List<Object> state() {
        List<Object> all = new ArrayList<>();
        Book twin = twin();
        all.add(Words.text(twin.words()));
        all.add(Check.answer(twin::version));
        all.add(Check.answer(twin::free));
        all.add(Check.answer(twin::badAt));
        all.add(Check.answer(() -> twin.crash(3)));
        all.add(Words.text(twin.words()));
        all.add(Check.answer(twin::reopen));
        all.add(Words.text(twin.words()));
        return all;
    }

    // ---- words made as wanted, by pokes

    void setPage(int page, long... want) {
        long[] is = page(page);
        for (int i = 0; i < PAGE_WORDS; i++) {
            if (is[i] != want[i]) {
                poke(page, i, is[i] ^ want[i]);
            }
        }
    }

    void setRoot(int root, long... want) {
        long[] is = root(root);
        for (int i = 0; i < ROOT_WORDS; i++) {
            if (is[i] != want[i]) {
                pokeRoot(root, i, is[i] ^ want[i]);
            }
        }
    }
}
