import java.math.BigInteger;

/** A bench on which all registers, the tape and OUT hold something, so that a refused call's traces would show. */
final class Furnished {
    static final int GREATEST = 0;
    static final int LEAST = 1;
    static final int ROOT = 2;
    static final int SEVEN = 3;
    static final int ZERO = 4;
    static final int ABOVE_LONGS = 5;
    static final int BELOW_LONGS = 6;
    static final int HIGHEST_BIT = 7;
    static final int ONE = 8;
    static final int MINUS_ONE = 9;
    static final int BEYOND_TWO_LIMBS = 10;
    static final int OTHER = 11;

    private static final BigInteger[] HELD = {
        Bench.GREATEST, Bench.LEAST, Bench.ONE.shiftLeft(4096), BigInteger.valueOf(7), BigInteger.ZERO,
        Bench.ONE.shiftLeft(63), Bench.ONE.shiftLeft(63).add(Bench.ONE).negate(), Bench.ONE.shiftLeft(8191),
        Bench.ONE, BigInteger.valueOf(-1), Bench.ONE.shiftLeft(64), BigInteger.valueOf(-20)
    };
    private static final String TAPE = "-57";
    /** How many bytes OUT has: those of -120. */
    static final int OUT_LENGTH = 4;

    interface Use {
        void on(BigDesk desk);
    }

    private final Bench bench;

    private Furnished(String name) {
        bench = new Bench(name);
        bench.does("set for OUT", () -> bench.desk.set(0, -120));
        bench.due("write for OUT", OUT_LENGTH, () -> bench.desk.write(0));
        bench.feed(TAPE);
        bench.loadGreatest(GREATEST, false);
        bench.loadGreatest(LEAST, true);
        bench.loadPower(ROOT, 1, 4096);
        bench.loadPower(HIGHEST_BIT, 1, 8191);
        for (int r = 0; r < HELD.length; r++) {
            if (HELD[r].bitLength() < 100) {
                bench.load(r, HELD[r]);
            }
        }
    }

    /** The call throws that exception, and registers, tape and OUT are what they were. */
    static void refuses(String promise, String exception, Use use) {
        Furnished desk = new Furnished(promise);
        desk.bench.does("the call", exception, () -> use.on(desk.bench.desk));
        desk.isAsItWas();
    }

    private void isAsItWas() {
        for (int r = 0; r < HELD.length; r++) {
            bench.holdsBriefly(r, HELD[r]);
        }
        bench.outIs("-120");
        bench.due("text(0)", TAPE.length(), () -> bench.desk.text(0));
        bench.due("read of the tape as it was", true, () -> bench.desk.read(OTHER));
        bench.holds(OTHER, new BigInteger(TAPE));
    }
}
