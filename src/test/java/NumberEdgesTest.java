import java.math.BigInteger;

/**
 * Promises 1 to 17 at the bounds that the document's sentences name, on the side where the call is not refused
 * (the other side is RefusalsTest): the least and the greatest, none and full, 0 and the lowest long.
 */
public final class NumberEdgesTest {
    private static final BigInteger ONE = Bench.ONE;
    private static final BigInteger TOP = ONE.shiftLeft(8191);
    private static final long HIGHEST = Long.MAX_VALUE;
    private static final long LOWEST = Long.MIN_VALUE;
    private static final int[] SIGNS = {1, -1};

    public static void main(String[] args) {
        newRegisters();
        newTapeAndOut();
        setOverTheGreatest();
        copyAtTheEnds();
        addUpToTheEnds();
        addToNothing();
        subtractUpToTheEnds();
        subtractToNothing();
        multiplyUpToTheEnds();
        multiplyByTheHighestBit();
        multiplyByNothing();
        timesUpToTheEnds();
        timesLongs();
        shiftByNothing();
        shiftUpToTheEnds();
        shiftNothingByTheMost();
        halfByNothing();
        halfByTheMost();
        halfDownwards();
        halfThroughAllLimbs();
        divideDownwards();
        divideExactly();
        divideThroughAllLimbs();
        divideByTheEnds();
        divideByOne();
        divideTheSmaller();
        gcdOfNothing();
        gcdIsNeverBelow();
        gcdAtTheEnds();
        negateAtTheEnds();
        negateNothing();
        compareNeighbours();
        compareSigns();
        restBySmallest();
        restByHighest();
        restIsNeverBelow();
        valueAtTheEnds();
        limbAtTheEnds();
        limbBeyond();
        lookAtTheSign();
        lookAtTheBits();
        lookForLongs();
        lookAtEndingZeros();
        Bench.finish();
    }

    private static BigInteger end(int sign) {
        return sign < 0 ? Bench.LEAST : Bench.GREATEST;
    }

    private static String side(int sign) {
        return sign < 0 ? ", below 0" : ", above 0";
    }

    private static void newRegisters() {
        Bench b = new Bench("promise 1, all registers are 0");
        for (int i = 0; i < 12; i++) {
            int r = i;
            b.due("value(" + r + ")", 0, () -> b.desk.value(r));
            for (int k = 0; k < 12; k++) {
                int other = k;
                b.due("compare(" + r + ", " + k + ")", 0, () -> b.desk.compare(r, other));
            }
        }
    }

    private static void newTapeAndOut() {
        Bench b = new Bench("promise 1, no byte on the tape and nothing in OUT at first");
        b.due("text(0)", 0, () -> b.desk.text(0));
        b.due("text(1)", 0, () -> b.desk.text(1));
        b.due("feed", 1, () -> b.desk.feed(1, 0x37));
        b.due("read(11)", true, () -> b.desk.read(11));
        b.due("value(11)", 7, () -> b.desk.value(11));
    }

    private static void setOverTheGreatest() {
        for (long v : new long[] {0, 1, -1, HIGHEST, LOWEST}) {
            Bench b = new Bench("promise 2, " + v + " in place of the least number");
            b.loadGreatest(0, true);
            b.does("set", () -> b.desk.set(0, v));
            b.holds(0, v);
            b.due("value(0)", v, () -> b.desk.value(0));
            for (int k : new int[] {2, 3, 254, 255}) {
                b.due("limb(0, " + k + ")", 0, () -> b.desk.limb(0, k));
            }
        }
    }

    private static void copyAtTheEnds() {
        for (int sign : SIGNS) {
            Bench b = new Bench("promise 3, all 8192 bits" + side(sign));
            b.loadGreatest(0, sign < 0);
            b.does("copy", () -> b.desk.copy(11, 0));
            b.holds(11, end(sign));
            b.does("copy of 0 over it", () -> b.desk.copy(11, 5));
            b.holds(11, 0);
            b.due("limb(11, 255)", 0, () -> b.desk.limb(11, 255));
            b.holdsBriefly(0, end(sign));
        }
    }

    private static void addUpToTheEnds() {
        for (int sign : SIGNS) {
            Bench b = new Bench("promise 4, a sum of all 8192 bits" + side(sign));
            b.loadPower(0, sign, 8191);
            b.does("set", () -> b.desk.set(1, -sign));
            b.does("add to one less", () -> b.desk.add(2, 0, 1));
            b.due("look(2, 1)", 8191, () -> b.desk.look(2, 1));
            b.does("add", () -> b.desk.add(3, 0, 2));
            b.holds(3, end(sign));
            b.does("add of 0", () -> b.desk.add(3, 3, 4));
            b.holdsBriefly(3, end(sign));
            b.does("add towards 0", () -> b.desk.add(3, 3, 1));
            b.holdsBriefly(3, end(sign).subtract(BigInteger.valueOf(sign)));
        }
    }

    private static void addToNothing() {
        Bench b = new Bench("promise 4, the greatest and the least number");
        b.loadGreatest(0, false);
        b.loadGreatest(1, true);
        b.does("add", () -> b.desk.add(2, 0, 1));
        b.holds(2, 0);
        b.due("compare with 0", 0, () -> b.desk.compare(2, 3));
        b.does("0 and 0", () -> b.desk.add(2, 3, 3));
        b.holds(2, 0);
    }

    private static void subtractUpToTheEnds() {
        for (int sign : SIGNS) {
            Bench b = new Bench("promise 5, a difference of all 8192 bits" + side(sign));
            b.loadPower(0, sign, 8191);
            b.does("set", () -> b.desk.set(1, sign));
            b.does("subtract to one less", () -> b.desk.subtract(2, 0, 1));
            b.does("negate", () -> b.desk.negate(2, 2));
            b.does("subtract", () -> b.desk.subtract(3, 0, 2));
            b.holds(3, end(sign));
            b.does("subtract of 0", () -> b.desk.subtract(3, 3, 4));
            b.holdsBriefly(3, end(sign));
            b.does("subtract from 0", () -> b.desk.subtract(3, 4, 3));
            b.holdsBriefly(3, end(-sign));
        }
    }

    private static void subtractToNothing() {
        for (int sign : SIGNS) {
            Bench b = new Bench("promise 5, a number of 8192 bits less itself" + side(sign));
            b.loadGreatest(0, sign < 0);
            b.does("copy", () -> b.desk.copy(1, 0));
            b.does("subtract", () -> b.desk.subtract(2, 0, 1));
            b.holds(2, 0);
            b.does("subtract of its own register", () -> b.desk.subtract(0, 0, 0));
            b.holds(0, 0);
            b.due("limb(0, 255)", 0, () -> b.desk.limb(0, 255));
        }
    }

    private static void multiplyUpToTheEnds() {
        for (int sign : SIGNS) {
            Bench b = new Bench("promise 6, a product of all 8192 bits" + side(sign));
            b.does("set", () -> b.desk.set(11, 1));
            b.loadPower(0, 1, 4096);
            b.does("root less one", () -> b.desk.subtract(1, 0, 11));
            b.does("root and one", () -> b.desk.add(2, 0, 11));
            b.does("sign", () -> b.desk.times(2, 2, sign));
            b.does("multiply", () -> b.desk.multiply(3, 1, 2));
            b.holds(3, end(sign));
            b.does("multiply by 1", () -> b.desk.multiply(3, 3, 11));
            b.holdsBriefly(3, end(sign));
        }
    }

    private static void multiplyByTheHighestBit() {
        Bench b = new Bench("promise 6, just 8192 and just 8193 bits of factors with many and with few limbs");
        b.does("set", () -> b.desk.set(0, 0xFFFFFFFFL));
        for (int n : new int[] {8159, 8160}) {
            b.loadPower(1, -1, n);
            b.does("multiply", () -> b.desk.multiply(2, 0, 1));
            b.holdsBriefly(2, BigInteger.valueOf(-0xFFFFFFFFL).shiftLeft(n));
        }
        b.loadPower(1, -1, 8161);
        b.does("multiply to 8193 bits", Bench.STATE, () -> b.desk.multiply(2, 0, 1));
        b.does("multiply to 8193 bits, turned round", Bench.STATE, () -> b.desk.multiply(2, 1, 0));
        b.loadPower(3, 1, 8191);
        b.does("set", () -> b.desk.set(4, -1));
        b.does("multiply by -1", () -> b.desk.multiply(3, 3, 4));
        b.holdsBriefly(3, TOP.negate());
    }

    private static void multiplyByNothing() {
        Bench b = new Bench("promise 6, the least number times 0");
        b.loadGreatest(0, true);
        b.does("multiply", () -> b.desk.multiply(1, 0, 2));
        b.holds(1, 0);
        b.does("multiply into its own register", () -> b.desk.multiply(0, 2, 0));
        b.holds(0, 0);
        b.due("limb(0, 255)", 0, () -> b.desk.limb(0, 255));
    }

    private static void timesUpToTheEnds() {
        for (int sign : SIGNS) {
            Bench b = new Bench("promise 7, a product of all 8192 bits" + side(sign));
            // 2 to the 8192 less one can be divided by 2 to the 32 less one, as 32 divides 8192.
            BigInteger divisor = BigInteger.valueOf(0xFFFFFFFFL);
            b.loadGreatest(0, sign < 0);
            b.load(1, divisor);
            b.does("divide", () -> b.desk.divide(2, 3, 0, 1));
            b.does("times", () -> b.desk.times(4, 2, 0xFFFFFFFFL));
            b.holds(4, end(sign));
            b.does("times 1", () -> b.desk.times(4, 4, 1));
            b.holdsBriefly(4, end(sign));
            b.does("times -1", () -> b.desk.times(4, 4, -1));
            b.holdsBriefly(4, end(-sign));
            b.does("times 0", () -> b.desk.times(4, 4, 0));
            b.holds(4, 0);
        }
    }

    private static void timesLongs() {
        Bench b = new Bench("promise 7, the lowest and the highest long");
        b.loadPower(0, 1, 8128);
        b.does("times the lowest long", () -> b.desk.times(1, 0, LOWEST));
        b.holdsBriefly(1, TOP.negate());
        b.loadPower(0, -1, 8129);
        b.does("times the highest long", () -> b.desk.times(1, 0, HIGHEST));
        b.holdsBriefly(1, BigInteger.valueOf(-HIGHEST).shiftLeft(8129));
        b.does("times the lowest long to 8193 bits", Bench.STATE, () -> b.desk.times(1, 0, LOWEST));
        b.does("set", () -> b.desk.set(2, LOWEST));
        b.does("the lowest long times itself", () -> b.desk.times(2, 2, LOWEST));
        b.holds(2, ONE.shiftLeft(126));
        b.does("0 times the lowest long", () -> b.desk.times(2, 3, LOWEST));
        b.holds(2, 0);
    }

    private static void shiftByNothing() {
        for (int sign : SIGNS) {
            Bench b = new Bench("promise 8, by 0 bits" + side(sign));
            b.loadGreatest(0, sign < 0);
            b.does("shift", () -> b.desk.shift(1, 0, 0));
            b.holds(1, end(sign));
            b.does("shift of 0", () -> b.desk.shift(1, 2, 0));
            b.holds(1, 0);
        }
    }

    private static void shiftUpToTheEnds() {
        for (int sign : SIGNS) {
            Bench b = new Bench("promise 8, to just 8192 bits" + side(sign));
            b.does("set", () -> b.desk.set(0, sign));
            b.does("shift by 8191", () -> b.desk.shift(1, 0, 8191));
            b.holds(1, TOP.multiply(BigInteger.valueOf(sign)));
            b.does("set", () -> b.desk.set(0, 7 * sign));
            b.does("shift of 7 by 8189", () -> b.desk.shift(1, 0, 8189));
            b.holdsBriefly(1, BigInteger.valueOf(7 * sign).shiftLeft(8189));
            b.does("set", () -> b.desk.set(0, LOWEST));
            b.does("shift of the lowest long by 8128", () -> b.desk.shift(1, 0, 8128));
            b.holdsBriefly(1, TOP.negate());
        }
    }

    private static void shiftNothingByTheMost() {
        Bench b = new Bench("promise 8, 0 by 8192 bits");
        b.loadGreatest(0, true);
        b.does("shift", () -> b.desk.shift(0, 1, 8192));
        b.holds(0, 0);
        b.does("shift into its own register", () -> b.desk.shift(1, 1, 8192));
        b.holds(1, 0);
    }

    private static void halfByNothing() {
        for (int sign : SIGNS) {
            Bench b = new Bench("promise 9, by 0 bits" + side(sign));
            b.loadGreatest(0, sign < 0);
            b.does("half", () -> b.desk.half(1, 0, 0));
            b.holds(1, end(sign));
        }
    }

    private static void halfByTheMost() {
        for (int sign : SIGNS) {
            int last = sign < 0 ? -1 : 0;
            Bench b = new Bench("promise 9, by 8191 and 8192 bits" + side(sign));
            b.loadGreatest(0, sign < 0);
            b.does("half by 8191", () -> b.desk.half(1, 0, 8191));
            b.holds(1, sign < 0 ? -2 : 1);
            b.does("half by 8192", () -> b.desk.half(1, 0, 8192));
            b.holds(1, last);
            b.loadPower(2, sign, 8191);
            b.does("half of one bit by 8191", () -> b.desk.half(1, 2, 8191));
            b.holds(1, sign);
            b.does("half of one bit by 8192", () -> b.desk.half(1, 2, 8192));
            b.holds(1, last);
            b.does("set", () -> b.desk.set(3, sign));
            b.does("half of " + sign + " by 8192", () -> b.desk.half(3, 3, 8192));
            b.holds(3, last);
            b.does("half of 0 by 8192", () -> b.desk.half(1, 4, 8192));
            b.holds(1, 0);
        }
    }

    /** 'The greatest whole number that is not above it': only a part that is lost moves a number below 0 on. */
    private static void halfDownwards() {
        long[][] rows = {
            {7, 1, 3}, {-7, 1, -4}, {8, 3, 1}, {-8, 3, -1}, {-9, 3, -2}, {-8, 4, -1}, {-1, 1, -1}, {1, 1, 0},
            {LOWEST, 63, -1}, {LOWEST, 62, -2}, {LOWEST, 1, LOWEST / 2}, {HIGHEST, 62, 1}, {HIGHEST, 63, 0},
            {-(1L << 32), 32, -1}, {-(1L << 32) - 1, 32, -2}, {-0xFFFFFFFFL, 31, -2}, {-0xFFFFFFFFL, 32, -1}
        };
        Bench b = new Bench("promise 9, downwards");
        for (long[] row : rows) {
            b.does("set", () -> b.desk.set(0, row[0]));
            b.does("half", () -> b.desk.half(1, 0, (int) row[1]));
            b.due(row[0] + " by " + row[1] + " bits", row[2], () -> b.desk.value(1));
        }
    }

    /** The step downwards may run through all limbs of a number, and up to one more bit. */
    private static void halfThroughAllLimbs() {
        Bench b = new Bench("promise 9, downwards through all limbs");
        b.loadGreatest(0, true);
        for (int n : new int[] {1, 2, 31, 32, 33, 64, 4096, 8190}) {
            b.does("half of the least number by " + n, () -> b.desk.half(1, 0, n));
            b.holdsBriefly(1, ONE.shiftLeft(8192 - n).negate());
        }
    }

    /** Every pair of small numbers: q is downwards, and the rest between 0 and b, not b itself. */
    private static void divideDownwards() {
        for (int divisor = -5; divisor <= 5; divisor++) {
            if (divisor == 0) {
                continue;
            }
            int y = divisor;
            Bench b = new Bench("promise 10, downwards by " + y);
            b.does("set", () -> b.desk.set(1, y));
            for (int i = -12; i <= 12; i++) {
                int x = i;
                b.does("set", () -> b.desk.set(0, x));
                b.does("divide", () -> b.desk.divide(2, 3, 0, 1));
                b.due("q for " + x, Math.floorDiv(x, y), () -> b.desk.value(2));
                b.due("s for " + x, Math.floorMod(x, y), () -> b.desk.value(3));
            }
        }
    }

    private static void divideExactly() {
        for (int sign : SIGNS) {
            for (int other : SIGNS) {
                Bench b = new Bench("promise 10, a rest of 0" + side(sign) + " by one" + side(other));
                b.loadPower(0, sign, 8191);
                b.loadPower(1, other, 4100);
                b.does("divide", () -> b.desk.divide(2, 3, 0, 1));
                b.holdsBriefly(2, ONE.shiftLeft(4091).multiply(BigInteger.valueOf(sign * other)));
                b.holds(3, 0);
                b.does("0 by it", () -> b.desk.divide(2, 3, 4, 1));
                b.holds(2, 0);
                b.holds(3, 0);
            }
        }
    }

    /** The step downwards may run through all limbs of the quotient, and up to one more bit. */
    private static void divideThroughAllLimbs() {
        for (int sign : SIGNS) {
            Bench b = new Bench("promise 10, downwards through all limbs of the quotient" + side(sign));
            b.loadGreatest(0, sign < 0);
            for (int n : new int[] {1, 31, 32, 62}) {
                long divisor = -sign * (1L << n);
                b.does("set", () -> b.desk.set(1, divisor));
                b.does("divide by " + divisor, () -> b.desk.divide(2, 3, 0, 1));
                b.holdsBriefly(2, ONE.shiftLeft(8192 - n).negate());
                b.holds(3, -sign);
            }
        }
    }

    private static void divideByTheEnds() {
        for (int sign : SIGNS) {
            for (int other : SIGNS) {
                Bench b = new Bench("promise 10, all 8192 bits" + side(sign) + " by as many" + side(other));
                b.loadGreatest(0, sign < 0);
                b.loadGreatest(1, other < 0);
                b.does("divide", () -> b.desk.divide(2, 3, 0, 1));
                b.holds(2, sign * other);
                b.holds(3, 0);
                b.does("set", () -> b.desk.set(4, sign));
                b.does("one nearer to 0", () -> b.desk.subtract(0, 0, 4));
                b.does("divide", () -> b.desk.divide(2, 3, 0, 1));
                b.holds(2, sign == other ? 0 : -1);
                b.holdsBriefly(3, sign == other ? end(sign).subtract(BigInteger.valueOf(sign))
                    : BigInteger.valueOf(other));
            }
        }
    }

    private static void divideByOne() {
        for (int sign : SIGNS) {
            Bench b = new Bench("promise 10, all 8192 bits by 1, by -1" + side(sign));
            b.loadGreatest(0, sign < 0);
            b.does("set", () -> b.desk.set(1, 1));
            b.does("divide", () -> b.desk.divide(2, 3, 0, 1));
            b.holdsBriefly(2, end(sign));
            b.holds(3, 0);
            b.does("set", () -> b.desk.set(1, -1));
            b.does("divide", () -> b.desk.divide(2, 3, 0, 1));
            b.holdsBriefly(2, end(-sign));
            b.holds(3, 0);
            b.does("set", () -> b.desk.set(1, LOWEST));
            b.does("the lowest long by -1", () -> b.desk.set(4, -1));
            b.does("divide", () -> b.desk.divide(2, 3, 1, 4));
            b.holds(2, ONE.shiftLeft(63));
            b.holds(3, 0);
        }
    }

    private static void divideTheSmaller() {
        for (int sign : SIGNS) {
            for (int other : SIGNS) {
                Bench b = new Bench("promise 10, 1" + side(sign) + " by all 8192 bits" + side(other));
                b.does("set", () -> b.desk.set(0, sign));
                b.loadGreatest(1, other < 0);
                b.does("divide", () -> b.desk.divide(2, 3, 0, 1));
                b.holds(2, sign == other ? 0 : -1);
                b.holdsBriefly(3, sign == other ? BigInteger.valueOf(sign)
                    : end(other).add(BigInteger.valueOf(sign)));
            }
        }
    }

    private static void gcdOfNothing() {
        Bench b = new Bench("promise 11, with 0");
        b.loadGreatest(4, true);
        b.does("twice 0", () -> b.desk.gcd(4, 0, 1));
        b.holds(4, 0);
        b.does("one register of 0", () -> b.desk.gcd(0, 0, 0));
        b.holds(0, 0);
        b.does("set", () -> b.desk.set(2, -6));
        b.does("0 and -6", () -> b.desk.gcd(3, 0, 2));
        b.holds(3, 6);
        b.does("-6 and 0", () -> b.desk.gcd(3, 2, 0));
        b.holds(3, 6);
    }

    private static void gcdIsNeverBelow() {
        Bench b = new Bench("promise 11, 0 or above");
        for (int sign : SIGNS) {
            for (int other : SIGNS) {
                b.does("set", () -> b.desk.set(0, 12 * sign));
                b.does("set", () -> b.desk.set(1, 18 * other));
                b.does("gcd", () -> b.desk.gcd(2, 0, 1));
                b.holds(2, 6);
                b.does("set", () -> b.desk.set(1, other));
                b.does("gcd with " + other, () -> b.desk.gcd(2, 0, 1));
                b.holds(2, 1);
                b.does("set", () -> b.desk.set(1, 12 * other));
                b.does("gcd of equals", () -> b.desk.gcd(2, 0, 1));
                b.holds(2, 12);
            }
        }
        b.does("set", () -> b.desk.set(0, LOWEST));
        b.does("gcd of the lowest long and 0", () -> b.desk.gcd(2, 0, 3));
        b.holds(2, ONE.shiftLeft(63));
        b.does("gcd of the lowest long and itself", () -> b.desk.gcd(2, 0, 0));
        b.holds(2, ONE.shiftLeft(63));
    }

    private static void gcdAtTheEnds() {
        Bench b = new Bench("promise 11, all 8192 bits");
        b.loadGreatest(0, false);
        b.loadGreatest(1, true);
        b.does("gcd of both ends", () -> b.desk.gcd(2, 0, 1));
        b.holdsBriefly(2, Bench.GREATEST);
        b.does("gcd of the least and 0", () -> b.desk.gcd(2, 1, 3));
        b.holdsBriefly(2, Bench.GREATEST);
        b.loadPower(4, -1, 8191);
        b.does("gcd of neighbours in bits", () -> b.desk.gcd(2, 0, 4));
        b.holds(2, 1);
        b.loadPower(5, 1, 8190);
        b.does("gcd of powers of 2", () -> b.desk.gcd(2, 4, 5));
        b.holdsBriefly(2, ONE.shiftLeft(8190));
        b.does("gcd into its own register", () -> b.desk.gcd(1, 1, 1));
        b.holdsBriefly(1, Bench.GREATEST);
    }

    private static void negateAtTheEnds() {
        for (int sign : SIGNS) {
            Bench b = new Bench("promise 12, all 8192 bits" + side(sign));
            b.loadGreatest(0, sign < 0);
            b.does("negate", () -> b.desk.negate(1, 0));
            b.holds(1, end(-sign));
        }
        Bench b = new Bench("promise 12, the ends of long");
        b.does("set", () -> b.desk.set(0, LOWEST));
        b.does("negate", () -> b.desk.negate(0, 0));
        b.holds(0, ONE.shiftLeft(63));
        b.does("negate back", () -> b.desk.negate(0, 0));
        b.due("value(0)", LOWEST, () -> b.desk.value(0));
        b.does("set", () -> b.desk.set(0, HIGHEST));
        b.does("negate", () -> b.desk.negate(0, 0));
        b.due("value(0)", -HIGHEST, () -> b.desk.value(0));
    }

    private static void negateNothing() {
        Bench b = new Bench("promise 12, 0");
        b.does("negate", () -> b.desk.negate(0, 1));
        b.due("look(0, 0)", 0, () -> b.desk.look(0, 0));
        b.due("compare with 0", 0, () -> b.desk.compare(0, 1));
        b.due("compare of 0 with it", 0, () -> b.desk.compare(1, 0));
        b.writes(0, "0");
    }

    private static void compareNeighbours() {
        for (int sign : SIGNS) {
            Bench b = new Bench("promise 13, neighbours of 8192 bits" + side(sign));
            b.loadGreatest(0, sign < 0);
            b.does("set", () -> b.desk.set(1, sign));
            b.does("one nearer to 0", () -> b.desk.subtract(2, 0, 1));
            b.due("further and nearer", sign, () -> b.desk.compare(0, 2));
            b.due("nearer and further", -sign, () -> b.desk.compare(2, 0));
            b.due("itself", 0, () -> b.desk.compare(0, 0));
            b.does("copy", () -> b.desk.copy(3, 0));
            b.due("the same", 0, () -> b.desk.compare(0, 3));
            b.loadPower(4, sign, 8191);
            b.due("only the highest bit", sign, () -> b.desk.compare(0, 4));
            b.does("subtract", () -> b.desk.subtract(5, 4, 1));
            b.due("8192 bits and 8191", sign, () -> b.desk.compare(4, 5));
        }
    }

    private static void compareSigns() {
        Bench b = new Bench("promise 13, numbers of unlike signs");
        b.loadGreatest(0, false);
        b.loadGreatest(1, true);
        b.does("set", () -> b.desk.set(2, 1));
        b.does("set", () -> b.desk.set(3, -1));
        int[] rising = {1, 3, 4, 2, 0};
        for (int i = 0; i < rising.length; i++) {
            for (int k = 0; k < rising.length; k++) {
                int x = rising[i];
                int y = rising[k];
                b.due("compare(" + x + ", " + y + ")", Integer.compare(i, k), () -> b.desk.compare(x, y));
            }
        }
    }

    private static void restBySmallest() {
        Bench b = new Bench("promise 14, by 1 and by 2");
        b.loadGreatest(0, false);
        b.loadGreatest(1, true);
        b.does("set", () -> b.desk.set(2, LOWEST));
        for (int r = 0; r < 4; r++) {
            int a = r;
            b.due("rest(" + r + ", 1)", 0, () -> b.desk.rest(a, 1));
            b.due("rest(" + r + ", 2)", r < 2 ? 1 : 0, () -> b.desk.rest(a, 2));
        }
    }

    private static void restByHighest() {
        Bench b = new Bench("promise 14, by the highest long");
        long[] numbers = {0, 1, -1, HIGHEST, HIGHEST - 1, -HIGHEST, LOWEST};
        for (long v : numbers) {
            b.does("set", () -> b.desk.set(0, v));
            b.due("rest of " + v, Math.floorMod(v, HIGHEST), () -> b.desk.rest(0, HIGHEST));
        }
        BigInteger m = BigInteger.valueOf(HIGHEST);
        b.loadGreatest(0, false);
        b.due("rest of the greatest", Bench.GREATEST.mod(m), () -> b.desk.rest(0, HIGHEST));
        b.loadGreatest(0, true);
        b.due("rest of the least", Bench.LEAST.mod(m), () -> b.desk.rest(0, HIGHEST));
    }

    /** '0 .. m - 1' for every small number and divisor: of a number below 0, too. */
    private static void restIsNeverBelow() {
        for (int m = 1; m <= 6; m++) {
            int divisor = m;
            Bench b = new Bench("promise 14, downwards by " + m);
            for (int i = -13; i <= 13; i++) {
                int x = i;
                b.does("set", () -> b.desk.set(0, x));
                b.due("rest of " + x, Math.floorMod(x, divisor), () -> b.desk.rest(0, divisor));
            }
        }
    }

    private static void valueAtTheEnds() {
        for (int sign : SIGNS) {
            long end = sign < 0 ? LOWEST : HIGHEST;
            Bench b = new Bench("promise 15, the last long" + side(sign));
            b.does("set", () -> b.desk.set(0, end));
            b.does("set", () -> b.desk.set(1, sign));
            b.due("value", end, () -> b.desk.value(0));
            b.does("one further", () -> b.desk.add(0, 0, 1));
            b.due("value", Bench.STATE, () -> b.desk.value(0));
            b.does("back", () -> b.desk.subtract(0, 0, 1));
            b.due("value", end, () -> b.desk.value(0));
            b.loadPower(0, sign, 64);
            b.does("5 further than 2 to the 64", () -> b.desk.set(2, 5));
            b.does("add", () -> b.desk.add(0, 0, 2));
            b.due("value", Bench.STATE, () -> b.desk.value(0));
            b.due("value of 0", 0, () -> b.desk.value(3));
        }
    }

    private static void limbAtTheEnds() {
        for (int sign : SIGNS) {
            Bench b = new Bench("promise 16, limbs 0 and 255" + side(sign));
            b.loadPower(0, sign, 8191);
            b.due("limb 255 of the highest bit", 0x80000000L, () -> b.desk.limb(0, 255));
            b.due("limb 254 of the highest bit", 0, () -> b.desk.limb(0, 254));
            b.due("limb 0 of the highest bit", 0, () -> b.desk.limb(0, 0));
            b.loadGreatest(0, sign < 0);
            b.due("limb 255 of all bits", 0xFFFFFFFFL, () -> b.desk.limb(0, 255));
            b.due("limb 0 of all bits", 0xFFFFFFFFL, () -> b.desk.limb(0, 0));
            b.does("set", () -> b.desk.set(0, sign));
            b.due("limb 0 of 1", 1, () -> b.desk.limb(0, 0));
        }
    }

    private static void limbBeyond() {
        Bench b = new Bench("promise 16, 0 beyond the absolute value");
        b.loadGreatest(0, true);
        b.does("set", () -> b.desk.set(0, LOWEST));
        b.due("limb 1 of the lowest long", 0x80000000L, () -> b.desk.limb(0, 1));
        for (int k = 2; k < 256; k++) {
            int beyond = k;
            b.due("limb " + k + " of the lowest long", 0, () -> b.desk.limb(0, beyond));
        }
        b.due("limb 0 of 0", 0, () -> b.desk.limb(1, 0));
        b.due("limb 255 of 0", 0, () -> b.desk.limb(1, 255));
    }

    private static void lookAtTheSign() {
        Bench b = new Bench("promise 17, the sign");
        b.loadGreatest(0, false);
        b.loadGreatest(1, true);
        b.does("set", () -> b.desk.set(2, 1));
        b.does("set", () -> b.desk.set(3, -1));
        b.does("set", () -> b.desk.set(4, LOWEST));
        int[] signs = {1, -1, 1, -1, -1, 0};
        for (int r = 0; r < signs.length; r++) {
            int a = r;
            b.due("look(" + r + ", 0)", signs[r], () -> b.desk.look(a, 0));
        }
    }

    private static void lookAtTheBits() {
        for (int sign : SIGNS) {
            Bench b = new Bench("promise 17, the bits" + side(sign));
            b.due("of 0", 0, () -> b.desk.look(1, 1));
            for (int n : new int[] {0, 1, 30, 31, 32, 33, 62, 63, 64, 8160, 8190, 8191}) {
                b.loadPower(0, sign, n);
                b.due("of 2 to the " + n, n + 1, () -> b.desk.look(0, 1));
                b.does("set", () -> b.desk.set(1, sign));
                b.does("subtract", () -> b.desk.subtract(0, 0, 1));
                b.due("of one less than 2 to the " + n, n, () -> b.desk.look(0, 1));
            }
            b.loadGreatest(0, sign < 0);
            b.due("of the last number", 8192, () -> b.desk.look(0, 1));
        }
    }

    private static void lookForLongs() {
        for (int sign : SIGNS) {
            Bench b = new Bench("promise 17, whether it is a long" + side(sign));
            b.does("set", () -> b.desk.set(0, sign < 0 ? LOWEST : HIGHEST));
            b.does("set", () -> b.desk.set(1, sign));
            b.due("the last long", 1, () -> b.desk.look(0, 2));
            b.does("one further", () -> b.desk.add(0, 0, 1));
            b.due("one beyond it", 0, () -> b.desk.look(0, 2));
            b.loadPower(0, sign, 64);
            b.due("2 to the 64", 0, () -> b.desk.look(0, 2));
            b.loadGreatest(0, sign < 0);
            b.due("the last number", 0, () -> b.desk.look(0, 2));
            b.due("0", 1, () -> b.desk.look(2, 2));
        }
    }

    private static void lookAtEndingZeros() {
        for (int sign : SIGNS) {
            Bench b = new Bench("promise 17, the 0 bits it ends with" + side(sign));
            b.due("of 0", 0, () -> b.desk.look(1, 3));
            for (int n : new int[] {0, 1, 31, 32, 33, 63, 64, 8160, 8191}) {
                b.loadPower(0, sign, n);
                b.due("of 2 to the " + n, n, () -> b.desk.look(0, 3));
            }
            b.loadPower(0, 5L * sign, 8189);
            b.due("of 5 times 2 to the 8189", 8189, () -> b.desk.look(0, 3));
            b.loadGreatest(0, sign < 0);
            b.due("of the last number", 0, () -> b.desk.look(0, 3));
        }
    }
}
