import java.math.BigInteger;

/** Promises 1 to 3 and 12 to 17: what registers hold at first, how they are laid and looked at. */
public final class RegistersTest {
    private static final long[] LONGS = {
        0, 1, -1, 7, -7, 0xFFFFFFFFL, -0xFFFFFFFFL, 1L << 32, -(1L << 32), Integer.MIN_VALUE,
        Long.MAX_VALUE, Long.MIN_VALUE, Long.MIN_VALUE + 1, 1L << 62
    };

    public static void main(String[] args) {
        newObject();
        set();
        copy();
        negate();
        compare();
        rest();
        value();
        limb();
        look();
        lookAtEndingZeros();
        Bench.finish();
    }

    private static void newObject() {
        Bench b = new Bench("promise 1");
        for (int i = 0; i < 12; i++) {
            int r = i;
            b.due("value(" + r + ")", 0, () -> b.desk.value(r));
            b.holds(r, 0);
        }
        b.due("text(0)", 0, () -> b.desk.text(0));
        b.due("text(1)", 0, () -> b.desk.text(1));
        b.due("out(0)", Bench.NO_ELEMENT, () -> b.desk.out(0));
        b.due("read(0) of no text", false, () -> b.desk.read(0));
        Bench other = new Bench("promise 1, two objects");
        other.does("set(0, 5)", () -> other.desk.set(0, 5));
        b.holds(0, 0);
    }

    private static void set() {
        for (long v : LONGS) {
            Bench b = new Bench("promise 2, " + v);
            b.loadGreatest(11, true);
            for (int r : new int[] {0, 11}) {
                b.does("set(" + r + ", v)", () -> b.desk.set(r, v));
                b.holds(r, v);
                b.due("limb(" + r + ", 255)", 0, () -> b.desk.limb(r, 255));
                b.due("value(" + r + ")", v, () -> b.desk.value(r));
            }
            b.holds(1, 0);
            b.holds(10, 0);
        }
    }

    private static void copy() {
        Bench b = new Bench("promise 3");
        b.loadGreatest(0, true);
        b.does("copy(3, 0)", () -> b.desk.copy(3, 0));
        b.does("set(0, 4)", () -> b.desk.set(0, 4));
        b.holds(3, Bench.LEAST);
        b.holds(0, 4);
        b.does("copy(3, 0) of a shorter one", () -> b.desk.copy(3, 0));
        b.due("limb(3, 255)", 0, () -> b.desk.limb(3, 255));
        b.holds(3, 4);
        b.does("copy(3, 3)", () -> b.desk.copy(3, 3));
        b.holds(3, 4);
        b.does("copy(0, 5) of 0", () -> b.desk.copy(0, 5));
        b.holds(0, 0);
    }

    private static void negate() {
        Bench b = new Bench("promise 12");
        b.loadGreatest(0, false);
        b.does("negate(1, 0)", () -> b.desk.negate(1, 0));
        b.holds(1, Bench.LEAST);
        b.holdsBriefly(0, Bench.GREATEST);
        b.does("negate(1, 1)", () -> b.desk.negate(1, 1));
        b.holdsBriefly(1, Bench.GREATEST);
        b.does("negate(1, 2) of 0", () -> b.desk.negate(1, 2));
        b.holds(1, 0);
        b.due("compare(1, 2)", 0, () -> b.desk.compare(1, 2));
        b.does("set(2, lowest long)", () -> b.desk.set(2, Long.MIN_VALUE));
        b.does("negate(2, 2)", () -> b.desk.negate(2, 2));
        b.holds(2, Bench.ONE.shiftLeft(63));
    }

    private static void compare() {
        BigInteger great = Bench.ONE.shiftLeft(320);
        BigInteger[] rising = {
            great.negate(), great.negate().add(Bench.ONE), BigInteger.valueOf(Long.MIN_VALUE),
            BigInteger.valueOf(-2), BigInteger.valueOf(-1), BigInteger.ZERO, Bench.ONE,
            BigInteger.valueOf(0xFFFFFFFFL), BigInteger.valueOf(1L << 32), great.subtract(Bench.ONE), great
        };
        Bench b = new Bench("promise 13");
        for (int i = 0; i < rising.length; i++) {
            b.load(i, rising[i]);
        }
        for (int i = 0; i < rising.length; i++) {
            for (int j = 0; j < rising.length; j++) {
                int x = i;
                int y = j;
                b.due("compare(" + x + ", " + y + ")", Integer.compare(x, y), () -> b.desk.compare(x, y));
            }
        }
        b.does("copy(11, 4)", () -> b.desk.copy(11, 4));
        b.due("compare(11, 4)", 0, () -> b.desk.compare(11, 4));
    }

    private static void rest() {
        Bench b = new Bench("promise 14");
        BigInteger odd = BigInteger.valueOf(0x123456789ABCDEFL).pow(40);
        BigInteger[] numbers = {
            BigInteger.ZERO, BigInteger.valueOf(10), BigInteger.valueOf(-10), BigInteger.valueOf(Long.MIN_VALUE),
            odd, odd.negate()
        };
        long[] divisors = {
            1, 2, 3, 10, 0xFFFFFFFFL, 1L << 32, (1L << 32) + 1, 1000000007, 1L << 62, Long.MAX_VALUE
        };
        for (BigInteger number : numbers) {
            b.load(0, number);
            for (long m : divisors) {
                BigInteger want = number.mod(BigInteger.valueOf(m));
                b.due("rest(" + number + ", " + m + ")", want, () -> b.desk.rest(0, m));
            }
        }
        for (long m : new long[] {0, -1, Long.MIN_VALUE}) {
            b.due("rest(0, " + m + ")", Bench.ARGUMENT, () -> b.desk.rest(0, m));
        }
        b.holds(0, numbers[5]);
    }

    private static void value() {
        Bench b = new Bench("promise 15");
        for (long v : LONGS) {
            b.does("set", () -> b.desk.set(0, v));
            b.due("value of " + v, v, () -> b.desk.value(0));
            b.due("look(0, 2) of " + v, 1, () -> b.desk.look(0, 2));
        }
        BigInteger above = Bench.ONE.shiftLeft(63);
        BigInteger below = above.negate().subtract(Bench.ONE);
        BigInteger[] none = {
            above, below, Bench.ONE.shiftLeft(64), Bench.ONE.shiftLeft(64).negate(),
            Bench.ONE.shiftLeft(64).add(Bench.ONE), Bench.ONE.shiftLeft(100).add(above).negate(),
            Bench.ONE.shiftLeft(640)
        };
        for (BigInteger v : none) {
            b.load(0, v);
            b.due("value of " + v, Bench.STATE, () -> b.desk.value(0));
            b.due("look(0, 2) of " + v, 0, () -> b.desk.look(0, 2));
            b.holds(0, v);
        }
    }

    private static void limb() {
        Bench b = new Bench("promise 16");
        BigInteger v = new BigInteger("-89ABCDEF0123456700000000FFFFFFFF80000001", 16);
        b.load(2, v);
        long[] limbs = {0x80000001L, 0xFFFFFFFFL, 0, 0x01234567L, 0x89ABCDEFL, 0, 0};
        for (int i = 0; i < limbs.length; i++) {
            int k = i;
            b.due("limb(2, " + k + ")", limbs[i], () -> b.desk.limb(2, k));
        }
        b.loadGreatest(2, true);
        b.due("limb(2, 0)", 0xFFFFFFFFL, () -> b.desk.limb(2, 0));
        b.due("limb(2, 255)", 0xFFFFFFFFL, () -> b.desk.limb(2, 255));
        for (int k : new int[] {-1, 256, 257, 258, Integer.MAX_VALUE, Integer.MIN_VALUE}) {
            b.due("limb(2, " + k + ")", Bench.ARGUMENT, () -> b.desk.limb(2, k));
        }
        b.does("set(2, 3)", () -> b.desk.set(2, 3));
        b.due("limb(2, 255) of 3", 0, () -> b.desk.limb(2, 255));
        b.due("limb(2, 1) of 3", 0, () -> b.desk.limb(2, 1));
    }

    private static void look() {
        Bench b = new Bench("promise 17");
        for (long v : LONGS) {
            BigInteger absolute = BigInteger.valueOf(v).abs();
            b.does("set", () -> b.desk.set(0, v));
            b.due("look(0, 0) of " + v, Long.signum(v), () -> b.desk.look(0, 0));
            b.due("look(0, 1) of " + v, absolute.bitLength(), () -> b.desk.look(0, 1));
            b.due("look(0, 2) of " + v, 1, () -> b.desk.look(0, 2));
            b.due("look(0, 3) of " + v, Math.max(absolute.getLowestSetBit(), 0), () -> b.desk.look(0, 3));
        }
        b.loadGreatest(1, true);
        b.due("look(1, 0)", -1, () -> b.desk.look(1, 0));
        b.due("look(1, 1)", 8192, () -> b.desk.look(1, 1));
        b.due("look(1, 2)", 0, () -> b.desk.look(1, 2));
        b.due("look(1, 3)", 0, () -> b.desk.look(1, 3));
        for (int what : new int[] {-1, 4, 5, Integer.MAX_VALUE, Integer.MIN_VALUE}) {
            b.due("look(1, " + what + ")", Bench.ARGUMENT, () -> b.desk.look(1, what));
        }
    }

    private static void lookAtEndingZeros() {
        Bench b = new Bench("promise 17, ending zeros");
        for (int n : new int[] {0, 1, 31, 32, 33, 63, 64, 65, 8190}) {
            b.does("set(0, -3)", () -> b.desk.set(0, -3));
            b.does("shift", () -> b.desk.shift(0, 0, n));
            b.due("look(0, 3) of -3 shifted by " + n, n, () -> b.desk.look(0, 3));
            b.due("look(0, 1) of -3 shifted by " + n, n + 2, () -> b.desk.look(0, 1));
        }
    }
}
