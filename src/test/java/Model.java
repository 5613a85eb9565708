import java.math.BigInteger;
import java.util.NoSuchElementException;

/** The document's words over BigInteger, as plainly as they can be said. */
final class Model {
    private final BigInteger[] registers = new BigInteger[12];
    private String tape = "";
    private String written = "";

    Model() {
        java.util.Arrays.fill(registers, BigInteger.ZERO);
    }

    BigInteger register(int r) {
        require(r >= 0 && r < 12);
        return registers[r];
    }

    private static void require(boolean holds) {
        if (!holds) {
            throw new IllegalArgumentException();
        }
    }

    private void keep(int r, BigInteger v) {
        if (v.abs().bitLength() > 8192) {
            throw new IllegalStateException();
        }
        registers[r] = v;
    }

    void set(int r, long v) {
        register(r);
        registers[r] = BigInteger.valueOf(v);
    }

    void copy(int r, int a) {
        register(r);
        registers[r] = register(a);
    }

    void add(int r, int a, int b) {
        register(r);
        keep(r, register(a).add(register(b)));
    }

    void subtract(int r, int a, int b) {
        register(r);
        keep(r, register(a).subtract(register(b)));
    }

    void multiply(int r, int a, int b) {
        register(r);
        keep(r, register(a).multiply(register(b)));
    }

    void times(int r, int a, long v) {
        register(r);
        keep(r, register(a).multiply(BigInteger.valueOf(v)));
    }

    void shift(int r, int a, int n) {
        register(r);
        register(a);
        require(n >= 0 && n <= 8192);
        keep(r, register(a).shiftLeft(n));
    }

    void half(int r, int a, int n) {
        register(r);
        register(a);
        require(n >= 0 && n <= 8192);
        keep(r, register(a).shiftRight(n));
    }

    void divide(int q, int s, int a, int b) {
        register(q);
        register(s);
        BigInteger x = register(a);
        BigInteger y = register(b);
        require(q != s);
        if (y.signum() == 0) {
            throw new ArithmeticException();
        }
        BigInteger rest = x.mod(y.abs());
        if (y.signum() < 0 && rest.signum() > 0) {
            rest = rest.add(y);
        }
        registers[q] = x.subtract(rest).divide(y);
        registers[s] = rest;
    }

    void gcd(int r, int a, int b) {
        register(r);
        registers[r] = register(a).gcd(register(b));
    }

    void negate(int r, int a) {
        register(r);
        registers[r] = register(a).negate();
    }

    int compare(int a, int b) {
        return register(a).compareTo(register(b));
    }

    long rest(int a, long m) {
        register(a);
        require(m >= 1);
        return register(a).mod(BigInteger.valueOf(m)).longValueExact();
    }

    long value(int a) {
        if (register(a).bitLength() > 63) {
            throw new IllegalStateException();
        }
        return registers[a].longValueExact();
    }

    long limb(int a, int k) {
        register(a);
        require(k >= 0 && k <= 255);
        return registers[a].abs().shiftRight(32 * k).longValue() & 0xFFFFFFFFL;
    }

    int look(int a, int what) {
        BigInteger v = register(a);
        require(what >= 0 && what <= 3);
        int[] answers = {
            v.signum(), v.abs().bitLength(), v.bitLength() <= 63 ? 1 : 0, Math.max(v.getLowestSetBit(), 0)
        };
        return answers[what];
    }

    int feed(int n, long v) {
        require(n >= 1 && n <= 8);
        if (tape.length() + n > 2600) {
            throw new IllegalStateException();
        }
        for (int i = 0; i < n; i++) {
            tape += (char) (v >>> (8 * i) & 0xFF);
        }
        return tape.length();
    }

    boolean read(int r) {
        register(r);
        String text = tape;
        tape = "";
        if (!text.matches("0|-?[1-9][0-9]*") || new BigInteger(text).abs().bitLength() > 8192) {
            return false;
        }
        registers[r] = new BigInteger(text);
        return true;
    }

    int write(int a) {
        written = register(a).toString();
        return written.length();
    }

    long out(int k) {
        if (k < 0 || k >= written.length()) {
            throw new NoSuchElementException();
        }
        return Bench.pack(written.substring(k, Math.min(k + 8, written.length())).getBytes());
    }

    int text(int what) {
        require(what == 0 || what == 1);
        return what == 0 ? tape.length() : written.length();
    }
}
