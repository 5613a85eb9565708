import java.math.BigInteger;
import java.util.List;

/**
 * 'REGISTERS 0 .. 11', 'a call may name a register more than once; what it reads is read before it is changed' and
 * 'throws IllegalArgumentException when there is no such register (as all calls that name some do)': each of the
 * three for each call that names registers, in each place where it names one.
 */
public final class RegisterNumbersTest {
    private static final int[] OUTSIDE = {-1, 12, Integer.MIN_VALUE, Integer.MAX_VALUE};
    private static final long[] VALUES = {12, -7, 30, -45, 8, -96, 36, 64, 21, -2, 100, -33};
    /** The registers that a call names where the place is not the one looked at. */
    private static final int[] COMMON = {3, 4, 5, 6};
    private static final int FED = 57;

    interface Use {
        Object on(BigDesk desk, int[] r);
    }

    /** What the call answers; v becomes what the registers hold behind it. */
    interface Effect {
        Object on(long[] v, int[] r);
    }

    private record Kind(String name, int places, Use use, Effect effect) {
    }

    private static final List<Kind> KINDS = List.of(
        new Kind("promise 2, set", 1, (d, r) -> done(() -> d.set(r[0], 77)), (v, r) -> becomes(v, r[0], 77)),
        new Kind("promise 3, copy", 2, (d, r) -> done(() -> d.copy(r[0], r[1])),
            (v, r) -> becomes(v, r[0], v[r[1]])),
        new Kind("promise 4, add", 3, (d, r) -> done(() -> d.add(r[0], r[1], r[2])),
            (v, r) -> becomes(v, r[0], v[r[1]] + v[r[2]])),
        new Kind("promise 5, subtract", 3, (d, r) -> done(() -> d.subtract(r[0], r[1], r[2])),
            (v, r) -> becomes(v, r[0], v[r[1]] - v[r[2]])),
        new Kind("promise 6, multiply", 3, (d, r) -> done(() -> d.multiply(r[0], r[1], r[2])),
            (v, r) -> becomes(v, r[0], v[r[1]] * v[r[2]])),
        new Kind("promise 7, times", 2, (d, r) -> done(() -> d.times(r[0], r[1], -6)),
            (v, r) -> becomes(v, r[0], v[r[1]] * -6)),
        new Kind("promise 8, shift", 2, (d, r) -> done(() -> d.shift(r[0], r[1], 3)),
            (v, r) -> becomes(v, r[0], v[r[1]] * 8)),
        new Kind("promise 9, half", 2, (d, r) -> done(() -> d.half(r[0], r[1], 2)),
            (v, r) -> becomes(v, r[0], Math.floorDiv(v[r[1]], 4L))),
        new Kind("promise 10, divide", 4, (d, r) -> done(() -> d.divide(r[0], r[1], r[2], r[3])),
            RegisterNumbersTest::divided),
        new Kind("promise 11, gcd", 3, (d, r) -> done(() -> d.gcd(r[0], r[1], r[2])),
            (v, r) -> becomes(v, r[0], big(v[r[1]]).gcd(big(v[r[2]])).longValue())),
        new Kind("promise 12, negate", 2, (d, r) -> done(() -> d.negate(r[0], r[1])),
            (v, r) -> becomes(v, r[0], -v[r[1]])),
        new Kind("promise 13, compare", 2, (d, r) -> d.compare(r[0], r[1]),
            (v, r) -> Long.compare(v[r[0]], v[r[1]])),
        new Kind("promise 14, rest", 1, (d, r) -> d.rest(r[0], 1000), (v, r) -> Math.floorMod(v[r[0]], 1000L)),
        new Kind("promise 15, value", 1, (d, r) -> d.value(r[0]), (v, r) -> v[r[0]]),
        new Kind("promise 16, limb", 1, (d, r) -> d.limb(r[0], 0), (v, r) -> Math.abs(v[r[0]])),
        new Kind("promise 17, look", 1, (d, r) -> d.look(r[0], 1), (v, r) -> big(v[r[0]]).abs().bitLength()),
        new Kind("promise 19, read", 1, (d, r) -> d.read(r[0]), (v, r) -> {
            becomes(v, r[0], FED);
            return true;
        }),
        new Kind("promise 20, write", 1, (d, r) -> d.write(r[0]), (v, r) -> String.valueOf(v[r[0]]).length()));

    public static void main(String[] args) {
        for (Kind kind : KINDS) {
            for (int place = 0; place < kind.places; place++) {
                firstAndLast(kind, place);
                outside(kind, place);
            }
            namedOften(kind);
        }
        Bench.finish();
    }

    private static Object done(Bench.Act act) {
        act.run();
        return Bench.OK;
    }

    private static Object becomes(long[] v, int r, long value) {
        v[r] = value;
        return Bench.OK;
    }

    private static Object divided(long[] v, int[] r) {
        long quotient = Math.floorDiv(v[r[2]], v[r[3]]);
        long rest = Math.floorMod(v[r[2]], v[r[3]]);
        v[r[0]] = quotient;
        v[r[1]] = rest;
        return Bench.OK;
    }

    private static BigInteger big(long v) {
        return BigInteger.valueOf(v);
    }

    private static int[] withPlace(int place, int r) {
        int[] named = COMMON.clone();
        named[place] = r;
        return named;
    }

    private static void firstAndLast(Kind kind, int place) {
        for (int r : new int[] {0, 11}) {
            accepts(kind, withPlace(place, r), " with register " + r + " in place " + place);
        }
    }

    private static void outside(Kind kind, int place) {
        for (int no : OUTSIDE) {
            String name = kind.name + " with no such register, " + no + ", in place " + place;
            int[] named = withPlace(place, no);
            Furnished.refuses(name, Bench.ARGUMENT, desk -> kind.use.on(desk, named));
        }
    }

    /** Every way to name three registers, with and without naming one of them again. */
    private static void namedOften(Kind kind) {
        int ways = (int) Math.pow(3, kind.places);
        for (int way = 0; way < ways; way++) {
            int[] named = {3 + way % 3, 3 + way / 3 % 3, 3 + way / 9 % 3, 3 + way / 27 % 3};
            boolean restOverQuotient = kind.places == 4 && named[0] == named[1];
            if (!restOverQuotient) {
                accepts(kind, named, " naming " + named[0] + ", " + named[1] + ", " + named[2] + ", " + named[3]);
            }
        }
    }

    private static void accepts(Kind kind, int[] named, String how) {
        Bench b = new Bench(kind.name + how);
        long[] v = VALUES.clone();
        for (int i = 0; i < v.length; i++) {
            int r = i;
            b.does("set(" + r + ", v)", () -> b.desk.set(r, VALUES[r]));
        }
        b.feed(String.valueOf(FED));
        b.due("the call", kind.effect.on(v, named), () -> kind.use.on(b.desk, named));
        for (int i = 0; i < v.length; i++) {
            int r = i;
            b.due("value(" + r + ") behind it", v[r], () -> b.desk.value(r));
        }
    }
}
