import java.math.BigInteger;

/** Promises 4 to 11: sums, products, shifts, division, common divisors. */
public final class ReckoningTest {
    private static final BigInteger WIDE = new BigInteger("FFFFFFFF00000000FFFFFFFFFFFFFFFF", 16);
    private static final BigInteger[] NUMBERS = {
        BigInteger.ZERO, Bench.ONE, BigInteger.valueOf(-1), BigInteger.valueOf(7), BigInteger.valueOf(-2),
        BigInteger.valueOf(0xFFFFFFFFL), BigInteger.valueOf(-(1L << 32)), BigInteger.valueOf(Long.MAX_VALUE),
        BigInteger.valueOf(Long.MIN_VALUE), WIDE, WIDE.negate(), Bench.ONE.shiftLeft(128),
        BigInteger.valueOf(1000000007).pow(12).negate(), BigInteger.valueOf(6).pow(150)
    };

    public static void main(String[] args) {
        for (BigInteger a : NUMBERS) {
            for (BigInteger b : NUMBERS) {
                pair(a, b);
            }
        }
        sumsAtTheLimit();
        productsAtTheLimit();
        timesAtTheLimit();
        shift();
        half();
        divideIntoItsOwn();
        divideAtTheLimit();
        guessesTooLarge();
        gcd();
        gcdOfUnlikeLengths();
        gcdBehindDivide();
        Bench.finish();
    }

    private static void pair(BigInteger x, BigInteger y) {
        Bench b = new Bench("promises 4 to 11, " + x + " and " + y);
        b.load(0, x);
        b.load(1, y);
        b.does("add", () -> b.desk.add(2, 0, 1));
        b.holds(2, x.add(y));
        b.does("subtract", () -> b.desk.subtract(3, 0, 1));
        b.holds(3, x.subtract(y));
        b.does("multiply", () -> b.desk.multiply(4, 0, 1));
        b.holds(4, x.multiply(y));
        if (y.bitLength() < Long.SIZE) {
            b.does("times", () -> b.desk.times(5, 0, y.longValue()));
            b.holds(5, x.multiply(y));
        }
        b.does("gcd", () -> b.desk.gcd(6, 0, 1));
        b.holds(6, x.gcd(y));
        if (y.signum() != 0) {
            b.does("divide", () -> b.desk.divide(7, 8, 0, 1));
            b.holds(7, floor(x, y));
            b.holds(8, x.subtract(y.multiply(floor(x, y))));
        } else {
            b.does("divide", Bench.ARITHMETIC, () -> b.desk.divide(7, 8, 0, 1));
            b.holds(7, 0);
            b.holds(8, 0);
        }
        b.holds(0, x);
        b.holds(1, y);
    }

    private static BigInteger floor(BigInteger a, BigInteger b) {
        BigInteger[] both = a.divideAndRemainder(b);
        boolean under = both[1].signum() != 0 && a.signum() != b.signum();
        return under ? both[0].subtract(Bench.ONE) : both[0];
    }

    private static void sumsAtTheLimit() {
        for (boolean below : new boolean[] {false, true}) {
            Bench b = new Bench("promises 4 and 5 at the limit" + (below ? ", below 0" : ""));
            BigInteger end = below ? Bench.LEAST : Bench.GREATEST;
            b.loadGreatest(0, below);
            b.does("set(1, 1)", () -> b.desk.set(1, below ? -1 : 1));
            b.does("set(2, -1)", () -> b.desk.set(2, below ? 1 : -1));
            b.does("set(3, 77)", () -> b.desk.set(3, 77));
            b.does("add over the limit", Bench.STATE, () -> b.desk.add(3, 0, 1));
            b.does("subtract over the limit", Bench.STATE, () -> b.desk.subtract(3, 0, 2));
            b.does("twice the greatest", Bench.STATE, () -> b.desk.add(3, 0, 0));
            b.does("add into itself", Bench.STATE, () -> b.desk.add(0, 0, 1));
            b.does("subtract into itself", Bench.STATE, () -> b.desk.subtract(0, 0, 2));
            b.holds(3, 77);
            b.holdsBriefly(0, end);
            b.does("add towards 0", () -> b.desk.add(3, 0, 2));
            b.holdsBriefly(3, end.subtract(BigInteger.valueOf(end.signum())));
            b.does("add back", () -> b.desk.add(3, 3, 1));
            b.due("compare(3, 0)", 0, () -> b.desk.compare(3, 0));
            b.does("subtract from itself", () -> b.desk.subtract(3, 0, 3));
            b.holds(3, 0);
            b.does("negate", () -> b.desk.negate(4, 0));
            b.does("add the opposite", () -> b.desk.add(5, 4, 0));
            b.holds(5, 0);
            b.does("subtract the opposite", Bench.STATE, () -> b.desk.subtract(5, 4, 0));
            b.holds(5, 0);
        }
    }

    private static void productsAtTheLimit() {
        Bench b = new Bench("promise 6 at the limit");
        BigInteger root = Bench.ONE.shiftLeft(4096);
        b.does("set(1, 1)", () -> b.desk.set(1, 1));
        b.does("shift", () -> b.desk.shift(0, 1, 4096));
        b.does("multiply to 2 to the 8192", Bench.STATE, () -> b.desk.multiply(0, 0, 0));
        b.holdsBriefly(0, root);
        b.does("below the root", () -> b.desk.subtract(2, 0, 1));
        b.does("above the root", () -> b.desk.add(3, 0, 1));
        b.does("multiply to the greatest", () -> b.desk.multiply(4, 2, 3));
        b.holdsBriefly(4, Bench.GREATEST);
        b.does("negate", () -> b.desk.negate(2, 2));
        b.does("multiply to the least", () -> b.desk.multiply(4, 3, 2));
        b.holdsBriefly(4, Bench.LEAST);
        b.does("multiply over the limit", Bench.STATE, () -> b.desk.multiply(5, 3, 3));
        b.does("multiply far over the limit", Bench.STATE, () -> b.desk.multiply(5, 4, 4));
        b.does("the least times the root", Bench.STATE, () -> b.desk.multiply(5, 4, 0));
        b.holds(5, 0);
        b.does("the least times 0", () -> b.desk.multiply(6, 4, 5));
        b.holds(6, 0);
        b.does("0 times the least", () -> b.desk.multiply(6, 5, 4));
        b.holds(6, 0);
        b.does("the least times 1", () -> b.desk.multiply(6, 4, 1));
        b.holdsBriefly(6, Bench.LEAST);
    }

    private static void timesAtTheLimit() {
        Bench b = new Bench("promise 7 at the limit");
        b.loadGreatest(0, false);
        b.does("times 2", Bench.STATE, () -> b.desk.times(0, 0, 2));
        b.does("times -2", Bench.STATE, () -> b.desk.times(0, 0, -2));
        b.does("times the lowest long", Bench.STATE, () -> b.desk.times(0, 0, Long.MIN_VALUE));
        b.does("times the highest long", Bench.STATE, () -> b.desk.times(1, 0, Long.MAX_VALUE));
        b.holdsBriefly(0, Bench.GREATEST);
        b.holds(1, 0);
        b.does("times -1", () -> b.desk.times(1, 0, -1));
        b.holdsBriefly(1, Bench.LEAST);
        b.does("times 1", () -> b.desk.times(1, 1, 1));
        b.holdsBriefly(1, Bench.LEAST);
        b.does("times 0", () -> b.desk.times(1, 0, 0));
        b.holds(1, 0);
        b.does("set", () -> b.desk.set(2, 1));
        b.does("shift", () -> b.desk.shift(2, 2, 8128));
        b.does("times the lowest long to 8192 bits", () -> b.desk.times(3, 2, Long.MIN_VALUE));
        b.holdsBriefly(3, Bench.ONE.shiftLeft(8191).negate());
        b.does("add", () -> b.desk.add(2, 2, 2));
        b.does("times the lowest long to 8193 bits", Bench.STATE, () -> b.desk.times(3, 2, Long.MIN_VALUE));
        b.does("times the highest long to 8192 bits", () -> b.desk.times(4, 2, Long.MAX_VALUE));
        b.holdsBriefly(4, BigInteger.valueOf(Long.MAX_VALUE).shiftLeft(8129));
    }

    private static void shift() {
        Bench b = new Bench("promise 8");
        BigInteger v = new BigInteger("-89ABCDEF0123456780000001", 16);
        b.load(0, v);
        for (int n : new int[] {0, 1, 31, 32, 33, 64, 95, 1000, 8096}) {
            b.does("shift by " + n, () -> b.desk.shift(1, 0, n));
            b.holdsBriefly(1, v.shiftLeft(n));
        }
        b.does("shift over the limit", Bench.STATE, () -> b.desk.shift(1, 0, 8097));
        b.does("shift far over the limit", Bench.STATE, () -> b.desk.shift(0, 0, 8192));
        b.holdsBriefly(1, v.shiftLeft(8096));
        for (int n : new int[] {-1, 8193, Integer.MAX_VALUE, Integer.MIN_VALUE}) {
            b.does("shift by " + n, Bench.ARGUMENT, () -> b.desk.shift(1, 0, n));
            b.does("shift of 0 by " + n, Bench.ARGUMENT, () -> b.desk.shift(1, 2, n));
        }
        b.holdsBriefly(1, v.shiftLeft(8096));
        b.holds(0, v);
        b.does("shift of 0 by 8192", () -> b.desk.shift(1, 2, 8192));
        b.holds(1, 0);
        b.does("set(3, 1)", () -> b.desk.set(3, 1));
        b.does("shift of 1 by 8191", () -> b.desk.shift(4, 3, 8191));
        b.holdsBriefly(4, Bench.ONE.shiftLeft(8191));
        b.does("shift of 1 by 8192", Bench.STATE, () -> b.desk.shift(4, 3, 8192));
        for (int n : new int[] {4096, 4097, 8128, 8192}) {
            b.does("set(3, 1)", () -> b.desk.set(3, 1));
            b.does("shift of 1 by 4096", () -> b.desk.shift(3, 3, 4096));
            b.does("then by " + n, Bench.STATE, () -> b.desk.shift(3, 3, n));
            b.holdsBriefly(3, Bench.ONE.shiftLeft(4096));
        }
        b.does("shift into itself", () -> b.desk.shift(0, 0, 70));
        b.holds(0, v.shiftLeft(70));
    }

    private static void half() {
        BigInteger wide = new BigInteger("89ABCDEF0123456700000000FFFFFFFF80000000", 16);
        BigInteger[] numbers = {
            wide, wide.negate(), BigInteger.ZERO, Bench.ONE, BigInteger.valueOf(-1), BigInteger.valueOf(-8),
            BigInteger.valueOf(Long.MIN_VALUE), Bench.ONE.shiftLeft(96).subtract(Bench.ONE).negate()
        };
        for (BigInteger v : numbers) {
            Bench b = new Bench("promise 9, " + v);
            b.load(0, v);
            for (int n : new int[] {0, 1, 3, 4, 31, 32, 33, 63, 64, 96, 97, 159, 160, 161, 8191, 8192}) {
                b.does("half by " + n, () -> b.desk.half(1, 0, n));
                b.holds(1, v.shiftRight(n));
            }
            for (int n : new int[] {-1, 8193, Integer.MAX_VALUE, Integer.MIN_VALUE}) {
                b.does("half by " + n, Bench.ARGUMENT, () -> b.desk.half(0, 0, n));
            }
            b.holds(0, v);
            b.does("half into itself", () -> b.desk.half(0, 0, 33));
            b.holds(0, v.shiftRight(33));
        }
        Bench b = new Bench("promise 9 at the limit");
        b.loadGreatest(0, true);
        for (int n : new int[] {0, 1, 32, 4096, 8191, 8192}) {
            b.does("half by " + n, () -> b.desk.half(1, 0, n));
            b.holdsBriefly(1, Bench.LEAST.shiftRight(n));
        }
    }

    private static void divideIntoItsOwn() {
        for (int way = 0; way < 6; way++) {
            int q = new int[] {0, 1, 2, 2, 0, 1}[way];
            int s = new int[] {1, 0, 0, 1, 2, 2}[way];
            Bench b = new Bench("promise 10, divide(" + q + ", " + s + ", 0, 1)");
            b.does("set", () -> b.desk.set(0, -100));
            b.does("set", () -> b.desk.set(1, 7));
            b.does("divide", () -> b.desk.divide(q, s, 0, 1));
            b.holds(q, -15);
            b.holds(s, 5);
        }
        Bench b = new Bench("promise 10, a number by itself");
        b.loadGreatest(0, true);
        b.does("divide", () -> b.desk.divide(0, 1, 0, 0));
        b.holds(0, 1);
        b.holds(1, 0);
    }

    private static void divideAtTheLimit() {
        Bench b = new Bench("promise 10 at the limit");
        BigInteger root = Bench.ONE.shiftLeft(4096).subtract(Bench.ONE);
        b.loadGreatest(0, true);
        b.does("set", () -> b.desk.set(1, 1));
        b.does("divide by 1", () -> b.desk.divide(2, 3, 0, 1));
        b.holdsBriefly(2, Bench.LEAST);
        b.holds(3, 0);
        b.does("set", () -> b.desk.set(1, -1));
        b.does("divide by -1", () -> b.desk.divide(2, 3, 0, 1));
        b.holdsBriefly(2, Bench.GREATEST);
        b.holds(3, 0);
        b.does("1 by the least", () -> b.desk.negate(4, 1));
        b.does("1 by the least", () -> b.desk.divide(2, 3, 4, 0));
        b.holds(2, -1);
        b.holdsBriefly(3, Bench.LEAST.add(Bench.ONE));
        b.does("set", () -> b.desk.set(5, 2));
        b.does("divide by 2", () -> b.desk.divide(2, 3, 0, 5));
        b.holdsBriefly(2, Bench.ONE.shiftLeft(8191).negate());
        b.holds(3, 1);
        b.does("root", () -> b.desk.shift(6, 4, 4096));
        b.does("root", () -> b.desk.subtract(6, 6, 4));
        b.does("divide by a root", () -> b.desk.divide(2, 3, 0, 6));
        b.holdsBriefly(2, root.add(BigInteger.TWO).negate());
        b.holds(3, 0);
        b.does("next", () -> b.desk.subtract(6, 6, 4));
        b.does("divide by less than a root", () -> b.desk.divide(2, 3, 0, 6));
        BigInteger less = root.subtract(Bench.ONE);
        b.holdsBriefly(2, floor(Bench.LEAST, less));
        b.holdsBriefly(3, Bench.LEAST.mod(less));
    }

    /** Dividends for which the first guess at a limb of the quotient is too large, by one or by two. */
    private static void guessesTooLarge() {
        String[][] rows = {
            {"7FFFFFFF800000010000000000000000", "800000008000000200000005"},
            {"800000000000000000000003", "200000000000000000000001"},
            {"8000FFFE00000000", "8000FFFF"},
            {"800000000000FFFE00000000", "80000000FFFF"},
            {"7FFFFFFFFFFFFFFFFFFFFFFFFFFFFFFF0000000000000000", "80000000000000000000000000000001"},
            {"FFFFFFFE0000000000000000FFFFFFFF", "FFFFFFFF00000000FFFFFFFF"},
            {"80000000000000000000000000000000", "8000000000000000FFFFFFFF"},
            {"7FFFFFFFFFFFFFFF0000000000000000", "8000000000000000FFFFFFFF"}
        };
        for (String[] row : rows) {
            BigInteger x = new BigInteger(row[0], 16);
            BigInteger y = new BigInteger(row[1], 16);
            pair(x, y);
            pair(x.negate(), y);
            pair(x, y.negate());
        }
    }

    private static void gcd() {
        Bench b = new Bench("promise 11");
        b.load(0, Bench.ONE);
        b.load(1, Bench.ONE);
        BigInteger x = Bench.ONE;
        BigInteger y = Bench.ONE;
        // Neighbours in Fibonacci's row need the most divisions of all.
        for (int i = 0; i < 60; i++) {
            b.does("add", () -> b.desk.add(0, 0, 1));
            b.does("add", () -> b.desk.add(1, 0, 1));
            x = x.add(y);
            y = x.add(y);
        }
        b.does("gcd of neighbours", () -> b.desk.gcd(2, 0, 1));
        b.holds(2, 1);
        b.does("set", () -> b.desk.set(3, -720720));
        b.does("multiply", () -> b.desk.multiply(4, 0, 3));
        b.does("multiply", () -> b.desk.multiply(5, 3, 1));
        b.does("gcd of multiples below 0", () -> b.desk.gcd(2, 4, 5));
        b.holds(2, 720720);
        b.does("gcd with 0", () -> b.desk.gcd(2, 4, 6));
        b.holds(2, x.multiply(BigInteger.valueOf(720720)));
        b.does("gcd of 0 and another", () -> b.desk.gcd(2, 6, 5));
        b.holds(2, y.multiply(BigInteger.valueOf(720720)));
        b.does("gcd of 0 and 0", () -> b.desk.gcd(2, 6, 6));
        b.holds(2, 0);
        b.loadGreatest(7, true);
        b.does("gcd of the least and itself", () -> b.desk.gcd(8, 7, 7));
        b.holdsBriefly(8, Bench.GREATEST);
        b.does("gcd of the least and 0", () -> b.desk.gcd(7, 7, 6));
        b.holdsBriefly(7, Bench.GREATEST);
        b.does("1", () -> b.desk.set(9, 1));
        b.does("shift", () -> b.desk.shift(9, 9, 6144));
        b.does("subtract", () -> b.desk.set(10, 1));
        b.does("subtract", () -> b.desk.subtract(9, 9, 10));
        b.does("gcd of long ones", () -> b.desk.gcd(9, 7, 9));
        b.holdsBriefly(9, Bench.ONE.shiftLeft(2048).subtract(Bench.ONE));
    }

    /** A first quotient of many bits makes the factors of a foretold run of divisions grow unlike. */
    private static void gcdOfUnlikeLengths() {
        BigInteger y = BigInteger.valueOf(0x1F2E3D4C5B6A7988L).pow(9);
        BigInteger rest = BigInteger.valueOf(0x0ABBCCDDEEFF1123L).pow(9);
        for (int n = 1; n < 62; n++) {
            BigInteger x = y.shiftLeft(n).add(rest);
            Bench b = new Bench("promise 11, the larger of " + n + " bits more");
            b.load(0, x);
            b.load(1, y.negate());
            b.does("gcd", () -> b.desk.gcd(2, 0, 1));
            b.holds(2, x.gcd(y));
        }
    }

    /** Nothing of one call's reckoning may show in the next, a sign least of all. */
    private static void gcdBehindDivide() {
        for (int x = 1; x <= 20; x++) {
            for (int y = 1; y <= 20; y++) {
                int first = 2 * x;
                int second = -y;
                Bench b = new Bench("promise 11 behind a rest below 0, " + first + " and " + second);
                b.does("set", () -> b.desk.set(0, 7));
                b.does("set", () -> b.desk.set(1, -2));
                b.does("set", () -> b.desk.set(2, first));
                b.does("set", () -> b.desk.set(3, second));
                b.does("divide", () -> b.desk.divide(4, 5, 0, 1));
                b.does("gcd", () -> b.desk.gcd(6, 2, 3));
                b.holds(4, -4);
                b.holds(5, -1);
                b.holds(6, BigInteger.valueOf(first).gcd(BigInteger.valueOf(second)));
            }
        }
    }
}
