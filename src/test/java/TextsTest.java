import java.math.BigInteger;

/** Promises 18 to 21: the tape, reading, writing, OUT. Their bounds and promise 22 are in TextEdgesTest. */
public final class TextsTest {
    private static final String[] TEXTS = {
        "0", "1", "-1", "9", "-9", "10", "999999999", "1000000000", "1000000001", "-1000000000000000000",
        "999999999999999999", "4294967295", "4294967296", "9223372036854775807", "-9223372036854775808",
        "9223372036854775808", "18446744073709551616", "100000000000000000000000000000000000000",
        "-340282366920938463463374607431768211455", "120000000003000000000000000000000000456"
    };
    private static final String[] NONE = {
        "-", "-0", "00", "01", "-01", "-00", "000000000000000000000", "+1", "--1", "1-", "1 ", " 1", "1.0", "12a4",
        "1:", "/1", "1/", ":", "\0", "1\0", "\0001", "\u00b1", "1\u00b5", "\u00ff", "-:", "1,000"
    };

    public static void main(String[] args) {
        feed();
        readTexts();
        readNone();
        readLong();
        out();
        Bench.finish();
    }

    private static void feed() {
        Bench b = new Bench("promise 18");
        for (int n : new int[] {0, -1, 9, 10, Integer.MAX_VALUE, Integer.MIN_VALUE}) {
            b.due("feed(" + n + ", 49)", Bench.ARGUMENT, () -> b.desk.feed(n, 49));
        }
        b.due("text(0)", 0, () -> b.desk.text(0));
        // The bytes of v above the n lowest are no digits: none of them may come upon the tape.
        long[] digits = {
            0xFFFFFFFFFFFFFF31L, 0xFFFFFFFFFFFF3332L, 0xFFFFFFFFFF363534L, 0xFFFFFFFF30393837L,
            0xFFFFFF3534333231L, 0xFFFF313039383736L, 0xFF38373635343332L, 0x3635343332313039L
        };
        int length = 0;
        for (int i = 0; i < digits.length; i++) {
            int n = i + 1;
            length += n;
            b.due("feed(" + n + ", v)", length, () -> b.desk.feed(n, digits[n - 1]));
        }
        b.due("read(0)", true, () -> b.desk.read(0));
        b.writes(0, "123456789012345678901234567890123456");
        b.due("feed behind read", 3, () -> b.desk.feed(3, 0x31322DL));
        b.due("read(1)", true, () -> b.desk.read(1));
        b.holds(1, -21);
    }

    private static void readTexts() {
        for (String text : TEXTS) {
            Bench b = new Bench("promises 19 to 21, " + text);
            for (int r : new int[] {0, 11}) {
                b.loadGreatest(r, true);
                b.feed(text);
                b.due("read", true, () -> b.desk.read(r));
                b.due("text(0) behind read", 0, () -> b.desk.text(0));
                b.holds(r, new BigInteger(text));
                b.writes(r, text);
                b.holds(r, new BigInteger(text));
            }
        }
    }

    private static void readNone() {
        Bench b = new Bench("promise 19, no text");
        b.does("set(0, 5)", () -> b.desk.set(0, 5));
        b.due("write(0)", 1, () -> b.desk.write(0));
        b.due("read(0) of nothing", false, () -> b.desk.read(0));
        for (String text : NONE) {
            b.feed(text);
            b.due("read(0) of " + text, false, () -> b.desk.read(0));
            b.due("text(0) behind it", 0, () -> b.desk.text(0));
            b.due("value(0) behind it", 5, () -> b.desk.value(0));
        }
        b.outIs("5");
        b.feed("42");
        b.due("read(1)", true, () -> b.desk.read(1));
        b.holds(1, 42);
    }

    private static void readLong() {
        for (int digits : new int[] {2466, 2467, 2468, 2500, 2599, 2600}) {
            for (String first : new String[] {"1", "9", "-9"}) {
                String text = first + "0".repeat(digits - first.length());
                boolean fits = new BigInteger(text).bitLength() <= 8192;
                Bench b = new Bench("promise 19, " + first + " and zeros, " + digits + " bytes");
                b.does("set(0, 5)", () -> b.desk.set(0, 5));
                b.feed(text);
                b.due("read(0)", fits, () -> b.desk.read(0));
                b.holdsBriefly(0, fits ? new BigInteger(text) : BigInteger.valueOf(5));
            }
        }
    }

    private static void out() {
        Bench b = new Bench("promise 21");
        for (int k : new int[] {0, 1, -1, 2468, Integer.MAX_VALUE, Integer.MIN_VALUE}) {
            b.due("out(" + k + ") before any", Bench.NO_ELEMENT, () -> b.desk.out(k));
        }
        b.does("set", () -> b.desk.set(0, -1234567890123L));
        b.due("write(0)", 14, () -> b.desk.write(0));
        String text = "-1234567890123";
        for (int i = 0; i < text.length(); i++) {
            int k = i;
            String piece = text.substring(k, Math.min(k + 8, text.length()));
            long want = Bench.pack(piece.getBytes());
            b.due("out(" + k + ")", want, () -> b.desk.out(k));
        }
        for (int k : new int[] {-1, -8, 14, 15, 2468, Integer.MAX_VALUE, Integer.MAX_VALUE - 7, Integer.MIN_VALUE}) {
            b.due("out(" + k + ")", Bench.NO_ELEMENT, () -> b.desk.out(k));
        }
        b.does("set(0, 8)", () -> b.desk.set(0, 8));
        b.outIs(text);
        b.due("write of a shorter one", 1, () -> b.desk.write(0));
        b.due("out(0)", 56, () -> b.desk.out(0));
        b.due("out(1)", Bench.NO_ELEMENT, () -> b.desk.out(1));
    }
}
