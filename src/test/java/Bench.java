import java.math.BigInteger;
import java.nio.charset.StandardCharsets;
import java.util.Arrays;

/** One BigDesk with checks of its answers; it sees to it that no object gets more than 512 calls. */
final class Bench {
    static final BigInteger ONE = BigInteger.ONE;
    static final BigInteger LIMIT = ONE.shiftLeft(8192);
    static final BigInteger GREATEST = LIMIT.subtract(ONE);
    static final BigInteger LEAST = GREATEST.negate();
    static final String OK = "done";
    static final String ARGUMENT = "throws.IllegalArgumentException";
    static final String STATE = "throws.IllegalStateException";
    static final String ARITHMETIC = "throws.ArithmeticException";
    static final String NO_ELEMENT = "throws.NoSuchElementException";

    private static final int MOST_CALLS = 512;
    private static final int PIECE_BITS = 62;
    private static int wrong = 0;
    private static int checked = 0;

    interface Call {
        Object answer();
    }

    interface Act {
        void run();
    }

    final BigDesk desk = new BigDesk();
    private final String name;
    private int calls = 0;

    Bench(String name) {
        this.name = name;
    }

    static void finish() {
        System.out.println(wrong == 0 ? checked + " answers are as due" : wrong + " answers are not as due");
        if (wrong != 0) {
            System.exit(1);
        }
    }

    static void check(String what, Object got, Object want) {
        checked++;
        if (!want.equals(got)) {
            wrong++;
            System.out.println(what + " answered " + got + ", due is " + want);
        }
    }

    static String answerOf(Call call) {
        try {
            return String.valueOf(call.answer());
        } catch (RuntimeException e) {
            return "throws." + e.getClass().getSimpleName();
        }
    }

    static String answerOf(Act act) {
        return answerOf(() -> {
            act.run();
            return OK;
        });
    }

    String answer(Call call) {
        calls++;
        if (calls > MOST_CALLS) {
            throw new AssertionError(name + " makes more than 512 calls");
        }
        return answerOf(call);
    }

    void due(String what, Object want, Call call) {
        check(name + ": " + what, answer(call), String.valueOf(want));
    }

    void does(String what, String want, Act act) {
        due(what, want, () -> {
            act.run();
            return OK;
        });
    }

    void does(String what, Act act) {
        does(what, OK, act);
    }

    /** Lays v into register r by set, shift and add or subtract; uses register 11 for the pieces. */
    void load(int r, BigInteger v) {
        boolean small = v.bitLength() < Long.SIZE;
        long first = small ? v.longValue() : 0;
        does("set for load", () -> desk.set(r, first));
        if (small) {
            return;
        }
        BigInteger left = v.abs();
        int pieces = (left.bitLength() + PIECE_BITS - 1) / PIECE_BITS;
        for (int i = pieces - 1; i >= 0; i--) {
            long piece = left.shiftRight(i * PIECE_BITS).longValue() & (1L << PIECE_BITS) - 1;
            does("set for load", () -> desk.set(11, piece));
            does("shift for load", () -> desk.shift(r, r, PIECE_BITS));
            if (v.signum() > 0) {
                does("add for load", () -> desk.add(r, r, 11));
            } else {
                does("subtract for load", () -> desk.subtract(r, r, 11));
            }
        }
    }

    /** v times 2 to the n. */
    void loadPower(int r, long v, int n) {
        does("set for loadPower", () -> desk.set(r, v));
        does("shift for loadPower", () -> desk.shift(r, r, n));
    }

    /** 2 to the 8192 less one, or its opposite; uses register 11. */
    void loadGreatest(int r, boolean below) {
        load(11, ONE);
        does("shift", () -> desk.shift(r, 11, 8191));
        does("subtract", () -> desk.subtract(r, r, 11));
        does("add", () -> desk.add(r, r, r));
        does("add", () -> desk.add(r, r, 11));
        if (below) {
            does("negate", () -> desk.negate(r, r));
        }
    }

    /** Sign, bits and every limb up to two beyond the number. */
    void holds(int r, BigInteger v) {
        BigInteger absolute = v.abs();
        due("look(" + r + ", 0)", v.signum(), () -> desk.look(r, 0));
        due("look(" + r + ", 1)", absolute.bitLength(), () -> desk.look(r, 1));
        int limbs = Math.min(absolute.bitLength() / 32 + 2, 256);
        for (int i = 0; i < limbs; i++) {
            int k = i;
            long limb = absolute.shiftRight(32 * i).longValue() & 0xFFFFFFFFL;
            due("limb(" + r + ", " + k + ")", limb, () -> desk.limb(r, k));
        }
    }

    void holds(int r, long v) {
        holds(r, BigInteger.valueOf(v));
    }

    /** As holds, but in four calls: a rest by a great prime in place of the limbs. */
    void holdsBriefly(int r, BigInteger v) {
        due("look(" + r + ", 0)", v.signum(), () -> desk.look(r, 0));
        due("look(" + r + ", 1)", v.abs().bitLength(), () -> desk.look(r, 1));
        for (long m : new long[] {(1L << 61) - 1, 1L << 62}) {
            BigInteger divisor = BigInteger.valueOf(m);
            due("rest(" + r + ", " + m + ")", v.mod(divisor), () -> desk.rest(r, m));
        }
    }

    void feed(String text) {
        feed(text.getBytes(StandardCharsets.ISO_8859_1));
    }

    void feed(byte[] row) {
        for (int i = 0; i < row.length; i += 8) {
            byte[] piece = Arrays.copyOfRange(row, i, Math.min(i + 8, row.length));
            String length = answer(() -> desk.feed(piece.length, pack(piece)));
            if (i + 8 >= row.length && !length.startsWith("throws")) {
                due("text(0) behind feed", length, () -> desk.text(0));
            }
        }
    }

    /** Writes register r and looks at all bytes of OUT, eight at a time. */
    void writes(int r, String text) {
        due("write(" + r + ")", text.length(), () -> desk.write(r));
        outIs(text);
    }

    void outIs(String text) {
        due("text(1)", text.length(), () -> desk.text(1));
        byte[] row = text.getBytes(StandardCharsets.ISO_8859_1);
        for (int i = 0; i < row.length; i += 8) {
            int k = i;
            long bytes = pack(Arrays.copyOfRange(row, i, Math.min(i + 8, row.length)));
            due("out(" + k + ")", bytes, () -> desk.out(k));
        }
        due("out behind the end", NO_ELEMENT, () -> desk.out(row.length));
    }

    static long pack(byte[] row) {
        long v = 0;
        for (int i = row.length - 1; i >= 0; i--) {
            v = v << 8 | row[i] & 0xFF;
        }
        return v;
    }
}
