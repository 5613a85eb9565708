/**
 * Each sentence on what a call refuses, beside those on register numbers (RegisterNumbersTest) and on a full tape
 * (TextEdgesTest): one beyond the bound on either side, and that nothing has changed behind the exception.
 */
public final class RefusalsTest {
    private static final int G = Furnished.GREATEST;
    private static final int L = Furnished.LEAST;
    private static final int ROOT = Furnished.ROOT;
    private static final int SEVEN = Furnished.SEVEN;
    private static final int ZERO = Furnished.ZERO;
    private static final int TOP = Furnished.HIGHEST_BIT;
    private static final int ONE = Furnished.ONE;
    private static final int MINUS = Furnished.MINUS_ONE;
    private static final int TO = Furnished.OTHER;
    private static final int LOW = Integer.MIN_VALUE;
    private static final int HIGH = Integer.MAX_VALUE;

    public static void main(String[] args) {
        sums();
        products();
        shifts();
        halves();
        divisions();
        rests();
        values();
        limbs();
        looks();
        texts();
        firstListed();
        Bench.finish();
    }

    private static void argument(String promise, Furnished.Use use) {
        Furnished.refuses(promise, Bench.ARGUMENT, use);
    }

    private static void state(String promise, Furnished.Use use) {
        Furnished.refuses(promise, Bench.STATE, use);
    }

    private static void sums() {
        state("promise 4, the greatest number and 1", d -> d.add(TO, G, ONE));
        state("promise 4, 1 and the greatest number", d -> d.add(TO, ONE, G));
        state("promise 4, the greatest number and 1 into its own register", d -> d.add(G, G, ONE));
        state("promise 4, the greatest number twice", d -> d.add(TO, G, G));
        state("promise 4, the highest bit twice", d -> d.add(TO, TOP, TOP));
        state("promise 4, the least number and -1", d -> d.add(TO, L, MINUS));
        state("promise 4, the least number and -1 into its own register", d -> d.add(L, L, MINUS));
        state("promise 4, the least number twice", d -> d.add(TO, L, L));
        state("promise 5, the greatest number less -1", d -> d.subtract(TO, G, MINUS));
        state("promise 5, the least number less 1", d -> d.subtract(TO, L, ONE));
        state("promise 5, the least number less 1 into its own register", d -> d.subtract(L, L, ONE));
        state("promise 5, 1 less the least number", d -> d.subtract(TO, ONE, L));
        state("promise 5, the greatest number less the least", d -> d.subtract(TO, G, L));
        state("promise 5, the least number less the greatest", d -> d.subtract(TO, L, G));
    }

    private static void products() {
        state("promise 6, 2 to the 8192", d -> d.multiply(TO, ROOT, ROOT));
        state("promise 6, 2 to the 8192 into its own register", d -> d.multiply(ROOT, ROOT, ROOT));
        state("promise 6, the highest bit times 7", d -> d.multiply(TO, TOP, SEVEN));
        state("promise 6, 7 times the highest bit", d -> d.multiply(TO, SEVEN, TOP));
        state("promise 6, the greatest number times itself", d -> d.multiply(TO, G, G));
        state("promise 6, the greatest number times the least", d -> d.multiply(G, G, L));
        state("promise 7, the highest bit times 2", d -> d.times(TO, TOP, 2));
        state("promise 7, the highest bit times -2", d -> d.times(TO, TOP, -2));
        state("promise 7, the greatest number times 2 into its own register", d -> d.times(G, G, 2));
        state("promise 7, the least number times 2", d -> d.times(TO, L, 2));
        state("promise 7, the greatest number times the highest long", d -> d.times(TO, G, Long.MAX_VALUE));
        state("promise 7, the greatest number times the lowest long", d -> d.times(TO, G, Long.MIN_VALUE));
    }

    private static void shifts() {
        for (int n : new int[] {-1, 8193, LOW, HIGH}) {
            argument("promise 8, a shift of 7 by " + n, d -> d.shift(TO, SEVEN, n));
            argument("promise 8, a shift of 0 by " + n, d -> d.shift(TO, ZERO, n));
        }
        state("promise 8, 1 shifted by 8192", d -> d.shift(TO, ONE, 8192));
        state("promise 8, -1 shifted by 8192", d -> d.shift(TO, MINUS, 8192));
        state("promise 8, 7 shifted by 8190", d -> d.shift(TO, SEVEN, 8190));
        state("promise 8, the highest bit shifted by 1", d -> d.shift(TO, TOP, 1));
        state("promise 8, the highest bit shifted by 1 into its own register", d -> d.shift(TOP, TOP, 1));
        state("promise 8, the greatest number shifted by 8192", d -> d.shift(TO, G, 8192));
        state("promise 8, the least number shifted by 1", d -> d.shift(TO, L, 1));
        state("promise 8, 2 to the 4096 shifted by 4096", d -> d.shift(TO, ROOT, 4096));
        state("promise 8, 2 to the 4096 shifted by 8192", d -> d.shift(TO, ROOT, 8192));
        state("promise 8, the highest bit shifted by 8192", d -> d.shift(TO, TOP, 8192));
    }

    private static void halves() {
        for (int n : new int[] {-1, 8193, LOW, HIGH}) {
            argument("promise 9, a half of 7 by " + n, d -> d.half(TO, SEVEN, n));
            argument("promise 9, a half of 0 by " + n, d -> d.half(TO, ZERO, n));
        }
    }

    private static void divisions() {
        argument("promise 10, q and s the same", d -> d.divide(TO, TO, G, SEVEN));
        argument("promise 10, q and s the same as a and b", d -> d.divide(SEVEN, SEVEN, SEVEN, SEVEN));
        Furnished.refuses("promise 10, 7 by 0", Bench.ARITHMETIC, d -> d.divide(TO, SEVEN, SEVEN, ZERO));
        Furnished.refuses("promise 10, the least number by 0", Bench.ARITHMETIC, d -> d.divide(TO, L, L, ZERO));
        Furnished.refuses("promise 10, 0 by 0", Bench.ARITHMETIC, d -> d.divide(TO, SEVEN, ZERO, ZERO));
    }

    private static void rests() {
        for (long m : new long[] {0, -1, Long.MIN_VALUE}) {
            argument("promise 14, the rest of 7 by " + m, d -> d.rest(SEVEN, m));
            argument("promise 14, the rest of 0 by " + m, d -> d.rest(ZERO, m));
        }
    }

    private static void values() {
        state("promise 15, one above the highest long", d -> d.value(Furnished.ABOVE_LONGS));
        state("promise 15, one below the lowest long", d -> d.value(Furnished.BELOW_LONGS));
        state("promise 15, 2 to the 64, whose lowest 64 bits are 0", d -> d.value(Furnished.BEYOND_TWO_LIMBS));
        state("promise 15, the greatest number", d -> d.value(G));
        state("promise 15, the least number", d -> d.value(L));
    }

    private static void limbs() {
        for (int k : new int[] {-1, 256, 257, LOW, HIGH}) {
            argument("promise 16, limb " + k + " of the greatest number", d -> d.limb(G, k));
            argument("promise 16, limb " + k + " of 0", d -> d.limb(ZERO, k));
        }
    }

    private static void looks() {
        for (int what : new int[] {-1, 4, LOW, HIGH}) {
            argument("promise 17, look for " + what, d -> d.look(SEVEN, what));
        }
    }

    private static void texts() {
        for (int n : new int[] {0, -1, 9, LOW, HIGH}) {
            argument("promise 18, " + n + " bytes fed", d -> d.feed(n, 0x3131313131313131L));
        }
        for (int k : new int[] {-1, Furnished.OUT_LENGTH, Furnished.OUT_LENGTH + 1, LOW, HIGH}) {
            Furnished.refuses("promise 21, no byte " + k, Bench.NO_ELEMENT, d -> d.out(k));
        }
        for (int what : new int[] {-1, 2, LOW, HIGH}) {
            argument("promise 22, text of " + what, d -> d.text(what));
        }
    }

    /** 'Of several exceptions that hold the one listed first is thrown.' */
    private static void firstListed() {
        for (int no : new int[] {-1, 12}) {
            argument("promise 4, no register " + no + " for no number", d -> d.add(no, G, G));
            argument("promise 5, no register " + no + " for no number", d -> d.subtract(no, G, L));
            argument("promise 6, no register " + no + " for no number", d -> d.multiply(no, G, G));
            argument("promise 7, no register " + no + " for no number", d -> d.times(no, G, 2));
            argument("promise 8, no register " + no + " for no number", d -> d.shift(no, G, 1));
            argument("promise 10, no q " + no + ", and b is 0", d -> d.divide(no, SEVEN, G, ZERO));
            argument("promise 10, no s " + no + ", and b is 0", d -> d.divide(SEVEN, no, G, ZERO));
            argument("promise 10, no a " + no + ", and b is 0", d -> d.divide(SEVEN, TO, no, ZERO));
        }
        argument("promise 8, 8193 bits further and no number", d -> d.shift(TO, G, 8193));
        argument("promise 8, -1 bits further and no number", d -> d.shift(TO, G, -1));
        argument("promise 10, q and s the same, and b is 0", d -> d.divide(TO, TO, SEVEN, ZERO));
    }
}
