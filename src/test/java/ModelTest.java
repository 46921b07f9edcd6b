import java.util.ArrayList;
import java.util.Arrays;
import java.util.Collection;
import java.util.List;
import java.util.Map;
import java.util.Objects;
import java.util.Random;
import java.util.Set;
import java.util.TreeMap;
import java.util.TreeSet;
import java.util.stream.Collectors;
import java.util.stream.IntStream;

/** Runs of calls drawn from fixed seeds, on a LeafBook and on a plain model of the document that shares no code. */
public final class ModelTest extends Check {
    private static final int RUNS = 2000;

    /** The document again, with maps and whole copies instead of drafts and saved words. */
    private static final class Model {
        final long[][] pages;
        final long[][] roots = new long[8][20];
        long newest = 0;
        boolean closed = false;
        boolean altered = false;
        List<long[]> writing = null; // each: 0 page or 1 root, which, word, before

        Model(int size) {
            pages = new long[Math.min(64, Math.max(8, size))][16];
            roots[0][19] = 1;
        }

        static long sum(long[] words, int many) {
            long s = 0;
            for (int i = 0; i < many; i++) {
                s = Long.rotateLeft(s ^ words[i], 5) * 0x9E3779B97F4A7C15L;
            }
            return s ^ 1;
        }

        /** The entries of a page, or null if it is not RIGHT. */
        TreeMap<Long, Long> leaf(long page) {
            long[] w = pages[(int) page];
            if (w[15] != sum(w, 15) || w[0] < 0 || w[0] > 7) {
                return null;
            }
            TreeMap<Long, Long> entries = new TreeMap<>();
            for (int k = 0; k < w[0]; k++) {
                long key = w[1 + 2 * k];
                if (key < 0 || key > 1000000 || !entries.isEmpty() && entries.lastKey() >= key) {
                    return null;
                }
                entries.put(key, w[2 + 2 * k]);
            }
            return entries;
        }

        boolean sound(long[] root) {
            return root[1] >= 0 && root[1] <= 16
                && IntStream.range(0, (int) root[1]).allMatch(k -> root[2 + k] >= 0 && root[2 + k] < pages.length);
        }

        /** The leaves of a root, or null if it is not RIGHT. */
        List<TreeMap<Long, Long>> leaves(long[] root) {
            if (root[19] != sum(root, 19) || !sound(root)) {
                return null;
            }
            List<TreeMap<Long, Long>> all = new ArrayList<>();
            long last = -1;
            long many = 0;
            for (int k = 0; k < root[1]; k++) {
                TreeMap<Long, Long> leaf = leaf(root[2 + k]);
                if (leaf == null || leaf.isEmpty() || leaf.firstKey() <= last) {
                    return null;
                }
                last = leaf.lastKey();
                many += leaf.size();
                all.add(leaf);
            }
            return many == root[18] ? all : null;
        }

        List<TreeMap<Long, Long>> kept(long version) {
            long[] root = roots[(int) Math.floorMod(version, 8L)];
            return version <= newest && root[0] == version ? leaves(root) : null;
        }

        TreeMap<Long, Long> entries(long version) {
            TreeMap<Long, Long> all = new TreeMap<>();
            asked(version).forEach(all::putAll);
            return all;
        }

        List<TreeMap<Long, Long>> asked(long version) {
            open();
            List<TreeMap<Long, Long>> leaves = kept(version);
            if (leaves == null) {
                throw new IndexOutOfBoundsException();
            }
            return leaves;
        }

        void open() {
            if (closed) {
                throw new IllegalStateException();
            }
        }

        Set<Long> held() {
            return Arrays.stream(roots).filter(r -> r[0] <= newest && sound(r))
                .flatMap(r -> Arrays.stream(r, 2, 2 + (int) r[1]).boxed()).collect(Collectors.toCollection(TreeSet::new));
        }

        /** With a value PUT, without one DROP. */
        int change(int key, Long value) {
            open();
            List<TreeMap<Long, Long>> old = kept(newest);
            if (old == null) {
                throw new IllegalStateException();
            }
            if (key < 0 || key > 1000000) {
                throw new IllegalArgumentException();
            }
            int at = Math.max(0, (int) old.stream().filter(l -> l.firstKey() <= key).count() - 1);
            TreeMap<Long, Long> changed = old.isEmpty() ? new TreeMap<>() : new TreeMap<>(old.get(at));
            if (value == null && !changed.containsKey((long) key)) {
                return 0;
            }
            if (value == null) {
                changed.remove((long) key);
            } else {
                changed.put((long) key, value);
            }
            List<Map<Long, Long>> made = new ArrayList<>();
            if (changed.size() == 8) {
                Long fifth = changed.keySet().stream().skip(4).findFirst().get();
                made.add(changed.headMap(fifth));
                made.add(changed.tailMap(fifth));
            } else if (!changed.isEmpty()) {
                made.add(changed);
            }
            return write(at, old, made);
        }

        int write(int at, List<TreeMap<Long, Long>> old, List<Map<Long, Long>> made) {
            Set<Long> held = held();
            List<Long> places = IntStream.range(0, pages.length).asLongStream().boxed().filter(p -> !held.contains(p))
                .limit(made.size()).collect(Collectors.toList());
            List<Map<Long, Long>> all = new ArrayList<>(old);
            List<Long> where = new ArrayList<>();
            long[] from = roots[(int) (newest % 8)];
            Arrays.stream(from, 2, 2 + old.size()).forEach(where::add);
            if (!old.isEmpty()) {
                all.remove(at);
                where.remove(at);
            }
            all.addAll(at, made);
            where.addAll(at, places);
            if (places.size() < made.size() || all.size() > 16) {
                throw new IllegalStateException();
            }
            writing = new ArrayList<>();
            for (int m = 0; m < made.size(); m++) {
                set(0, places.get(m).intValue(), wordsOf(made.get(m)));
            }
            newest++;
            long[] root = new long[20];
            root[0] = newest;
            root[1] = all.size();
            for (int k = 0; k < where.size(); k++) {
                root[2 + k] = where.get(k);
            }
            root[18] = all.stream().mapToInt(Map::size).sum();
            root[19] = sum(root, 19);
            set(1, (int) (newest % 8), root);
            altered = false;
            return (int) newest;
        }

        static long[] wordsOf(Map<Long, Long> entries) {
            long[] w = new long[16];
            int i = 1;
            for (Map.Entry<Long, Long> e : entries.entrySet()) {
                w[i++] = e.getKey();
                w[i++] = e.getValue();
            }
            w[0] = entries.size();
            w[15] = sum(w, 15);
            return w;
        }

        void set(int kind, int which, long[] words) {
            long[] target = kind == 0 ? pages[which] : roots[which];
            for (int i = 0; i < words.length; i++) {
                writing.add(new long[] {kind, which, i, target[i]});
                target[i] = words[i];
            }
        }

        int crash(int k) {
            open();
            if (writing == null || altered) {
                throw new IllegalStateException();
            }
            if (k < 0) {
                throw new IllegalArgumentException();
            }
            for (int j = writing.size() - 1; j >= k; j--) {
                long[] w = writing.get(j);
                (w[0] == 0 ? pages : roots)[(int) w[1]][(int) w[2]] = w[3];
            }
            closed = true;
            return writing.size();
        }

        int reopen() {
            newest = IntStream.range(0, 8)
                .filter(r -> roots[r][0] >= 0 && roots[r][0] <= 1000000000 && roots[r][0] % 8 == r && leaves(roots[r]) != null)
                .mapToLong(r -> roots[r][0]).max().orElse(-1);
            if (newest < 0) {
                roots[0] = new long[20];
                roots[0][19] = 1;
                newest = 0;
            }
            closed = false;
            writing = null;
            return (int) newest;
        }

        long word(long[][] rows, int row, int i) {
            if (row < 0 || row >= rows.length || i < 0 || i >= rows[0].length) {
                throw new IndexOutOfBoundsException();
            }
            return rows[row][i];
        }

        Object alter(long[][] rows, int row, int i, long mask) {
            word(rows, row, i);
            if (mask == 0) {
                throw new IllegalArgumentException();
            }
            rows[row][i] ^= mask;
            altered = true;
            return "poked";
        }

        int badAt() {
            for (long p : held()) {
                if (leaf(p) == null) {
                    return (int) p;
                }
            }
            for (int r = 0; r < 8; r++) {
                if (Arrays.stream(roots[r], 0, 19).anyMatch(w -> w != 0) && roots[r][19] != sum(roots[r], 19)) {
                    return 100 + r;
                }
            }
            return -1;
        }

        int count(int version, int what) {
            int leaves = asked(version).size();
            if (what != 0 && what != 1) {
                throw new IllegalArgumentException();
            }
            return what == 1 ? leaves : entries(version).size();
        }

        int key(int version, int k) {
            Collection<Long> keys = entries(version).keySet();
            if (k < 0 || k >= keys.size()) {
                throw new IndexOutOfBoundsException();
            }
            return new ArrayList<>(keys).get(k).intValue();
        }
    }

    private final Random random;
    private final Model model;
    private final Book book;
    private final int keyRange;
    private final int pokes;
    private final int crashes;
    private final int drops;
    private final List<String> told = new ArrayList<>();
    private boolean wrong = false;
    private static final Map<String, Integer> SEEN = new TreeMap<>();

    private ModelTest(long seed) {
        random = new Random(seed);
        int size = random.nextInt(4) == 0 ? random.nextInt(80) - 5 : random.nextBoolean() ? 8 + random.nextInt(8) : 64;
        model = new Model(size);
        book = new Book(size);
        keyRange = new int[] {6, 30, 200, 1000001}[random.nextInt(4)];
        pokes = new int[] {0, 3, 15}[random.nextInt(3)];
        crashes = new int[] {0, 2, 10}[random.nextInt(3)];
        drops = new int[] {5, 20, 45}[random.nextInt(3)];
        told.add("new LeafBook(" + size + ")");
    }

    private void ask(String name, String arguments, Call ofBook, Call ofModel) {
        if (book.calls() == Book.MOST_CALLS) {
            return;
        }
        Object got = answer(ofBook);
        Object want = answer(ofModel);
        told.add(name + "(" + arguments + ") answered " + got + ", due is " + want);
        SEEN.merge(name + (want instanceof Class ? " " + want : ""), 1, Integer::sum);
        wrong |= !Objects.equals(got, want);
    }

    private int aKey() {
        int kind = random.nextInt(40);
        if (kind == 0) {
            return new int[] {-1, 1000001, Integer.MIN_VALUE, Integer.MAX_VALUE}[random.nextInt(4)];
        }
        return kind == 1 ? random.nextInt(2) * 1000000 : random.nextInt(keyRange);
    }

    private int aVersion() {
        int kind = random.nextInt(20);
        if (kind == 0) {
            return new int[] {-1, -8, 0, Integer.MIN_VALUE, Integer.MAX_VALUE, 1000000000}[random.nextInt(6)];
        }
        if (kind == 1) {
            return (int) model.roots[random.nextInt(8)][0];
        }
        return (int) model.newest - random.nextInt(10) + 1;
    }

    private long aMask() {
        switch (random.nextInt(5)) {
            case 0: return random.nextLong();
            case 1: return 1L << random.nextInt(64);
            case 2: return 0;
            default: return random.nextInt(20);
        }
    }

    private void poke(int page, int i, long mask) {
        ask("poke", page + ", " + i + ", " + mask, () -> book.poke(page, i, mask),
            () -> model.alter(model.pages, page, i, mask));
    }

    private void pokeRoot(int root, int i, long mask) {
        ask("pokeRoot", root + ", " + i + ", " + mask, () -> book.pokeRoot(root, i, mask),
            () -> model.alter(model.roots, root, i, mask));
    }

    /** Half of the pokes are taken back, and some get the sum that makes them look as if they had been written. */
    private void pokeSomewhere() {
        int row = random.nextInt(20) == 0 ? random.nextInt() : random.nextInt(random.nextBoolean() ? 8 : model.pages.length);
        int i = random.nextInt(20) == 0 ? 14 + random.nextInt(8) : random.nextInt(random.nextBoolean() ? 3 : 16);
        long mask = aMask();
        int then = random.nextInt(4);
        if (random.nextBoolean()) {
            poke(row, i, mask);
            if (then < 2) {
                askSomething();
                poke(row, i, mask);
            } else if (then == 2 && row >= 0 && row < model.pages.length) {
                poke(row, 15, model.pages[row][15] ^ Model.sum(model.pages[row], 15));
            }
        } else {
            pokeRoot(row, i, mask);
            if (then < 2) {
                askSomething();
                pokeRoot(row, i, mask);
            } else if (then == 2 && row >= 0 && row < 8) {
                pokeRoot(row, 19, model.roots[row][19] ^ Model.sum(model.roots[row], 19));
            }
        }
    }

    /** A root that tells another version, with its sum. */
    private void craftRoot() {
        int root = random.nextInt(8);
        long[] versions = {root - 8L, root + 8L * random.nextInt(4), 1000000000L - 8 + root, 1000000000L + root, root + 1L,
            root + (1L << 32), Long.MIN_VALUE + root, model.newest, model.newest + random.nextInt(20) - 10};
        pokeRoot(root, 0, model.roots[root][0] ^ versions[random.nextInt(versions.length)]);
        pokeRoot(root, 19, model.roots[root][19] ^ Model.sum(model.roots[root], 19));
    }

    private void reopen() {
        ask("reopen", "", book::reopen, model::reopen);
    }

    private void act() {
        int key = aKey();
        if (random.nextInt(100) < drops) {
            ask("drop", "" + key, () -> book.drop(key), () -> model.change(key, null));
            return;
        }
        long value = random.nextInt(3) == 0 ? random.nextLong() : random.nextInt(2);
        ask("put", key + ", " + value, () -> book.put(key, value), () -> model.change(key, value));
    }

    private void crash() {
        int kind = random.nextInt(12);
        int k = kind == 0 ? -1 - random.nextInt(3) : kind == 1 ? Integer.MAX_VALUE : random.nextInt(56);
        ask("crash", "" + k, () -> book.crash(k), () -> model.crash(k));
    }

    private void askSomething() {
        int v = aVersion();
        int w = aVersion();
        int key = aKey();
        int n = random.nextInt(10) == 0 ? random.nextInt() : random.nextInt(75) - 2;
        int what = random.nextInt(10) == 0 ? random.nextInt() : random.nextInt(3);
        int row = random.nextInt(10) == 0 ? random.nextInt() : random.nextInt(66) - 1;
        int i = random.nextInt(10) == 0 ? random.nextInt() : random.nextInt(22) - 1;
        int k = random.nextInt(3) == 0 ? n : random.nextInt(12);
        switch (random.nextInt(11)) {
            case 0: ask("version", "", book::version, () -> { model.open(); return (int) model.newest; }); break;
            case 1: ask("has", v + ", " + key, () -> book.has(v, key), () -> model.entries(v).containsKey((long) key)); break;
            case 2: ask("find", v + ", " + key, () -> book.find(v, key), () -> model.entries(v).getOrDefault((long) key, 0L)); break;
            case 3: ask("count", v + ", " + what, () -> book.count(v, what), () -> model.count(v, what)); break;
            case 4: ask("key", v + ", " + k, () -> book.key(v, k), () -> model.key(v, k)); break;
            case 5: ask("same", v + ", " + w, () -> book.same(v, w), () -> model.entries(v).equals(model.entries(w))); break;
            case 6: ask("free", "", book::free, () -> { model.open(); return model.pages.length - model.held().size(); }); break;
            case 7: ask("wordAt", row + ", " + i, () -> book.wordAt(row, i), () -> model.word(model.pages, row, i)); break;
            case 8: ask("rootAt", row % 9 + ", " + i, () -> book.rootAt(row % 9, i), () -> model.word(model.roots, row % 9, i)); break;
            default: ask("badAt", "", book::badAt, model::badAt); break;
        }
    }

    private void step() {
        int kind = random.nextInt(100);
        if (kind < pokes) {
            pokeSomewhere();
        } else if (kind < pokes + pokes / 3) {
            craftRoot();
        } else if (kind < pokes + pokes / 3 + crashes) {
            crash();
        } else if (random.nextInt(model.closed || model.kept(model.newest) == null ? 4 : 150) == 0) {
            reopen();
        } else if (random.nextInt(3) != 0) {
            act();
        } else {
            askSomething();
        }
    }

    private void compareWords() {
        List<Long> words = new ArrayList<>();
        for (long[] page : model.pages) {
            Arrays.stream(page).forEach(words::add);
        }
        for (long[] root : model.roots) {
            Arrays.stream(root).forEach(words::add);
        }
        String got = Words.text(book.words());
        told.add("the words are " + got + ", due is " + words);
        wrong |= !got.equals(words.toString());
    }

    /** Runs of all lengths, so that words are looked at early and late; some use up all calls, with none left to look. */
    private boolean run(long seed) {
        int length = random.nextInt(4) == 0 ? Book.MOST_CALLS : 1 + random.nextInt(450);
        while (book.calls() < length && !wrong) {
            step();
        }
        if (!wrong && book.calls() < Book.MOST_CALLS) {
            compareWords();
        }
        if (wrong) {
            System.out.println("run of seed " + seed + " (the last row is not as due):");
            told.subList(Math.max(0, told.size() - 12), told.size()).forEach(System.out::println);
        }
        return !wrong;
    }

    public static void main(String[] args) {
        int bad = 0;
        for (long seed = 1; seed <= RUNS && bad < 3; seed++) {
            bad += new ModelTest(seed).run(seed) ? 0 : 1;
        }
        if (args.length > 0) {
            SEEN.forEach((what, many) -> System.out.println(many + " " + what));
        }
        System.out.println(bad == 0 ? RUNS + " runs as due" : bad + " runs not as due");
        if (bad != 0) {
            System.exit(1);
        }
    }
}
