import java.util.Arrays;

/** The words that a page or root should have. */
final class Words {
    private Words() {
    }

    static long sum(long... words) {
        long s = 0;
        for (long w : words) {
            s = Long.rotateLeft(s ^ w, 5) * 0x9E3779B97F4A7C15L;
        }
        return s ^ 1;
    }

    /** The same words with the sum of those before as the last. */
    static long[] summed(long... words) {
        long[] w = words.clone();
        w[w.length - 1] = sum(Arrays.copyOf(w, w.length - 1));
        return w;
    }

    /** The same words but for one, and with the sum that goes with it. */
    static long[] but(long[] words, int i, long word) {
        long[] w = words.clone();
        w[i] = word;
        return summed(w);
    }

    static long[] leaf(long... keysAndValues) {
        long[] w = new long[16];
        w[0] = keysAndValues.length / 2;
        System.arraycopy(keysAndValues, 0, w, 1, keysAndValues.length);
        return summed(w);
    }

    static long[] root(long version, long entries, long... leaves) {
        long[] w = new long[20];
        w[0] = version;
        w[1] = leaves.length;
        System.arraycopy(leaves, 0, w, 2, leaves.length);
        w[18] = entries;
        return summed(w);
    }

    static String text(long[] words) {
        return Arrays.toString(words);
    }
}
