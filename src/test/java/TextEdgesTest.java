import java.math.BigInteger;

/** Promises 18 to 22 at the bounds that the document's sentences name: the tape, texts and OUT. */
public final class TextEdgesTest {
    private static final int TAPE_ROOM = 2600;
    private static final long EIGHT_ONES = 0x3131313131313131L;

    public static void main(String[] args) {
        feedOneByte();
        feedEightBytes();
        feedOnlyTheLowest();
        feedAnyByte();
        feedToTheFull();
        feedOverTheFull();
        feedArgumentFirst();
        feedBehindAFullTape();
        readNothing();
        readUsesTheTapeUp();
        readNoText();
        readNoDigit();
        readZero();
        readChangesNothingElse();
        readEveryBit();
        readOneBitTooMany();
        readHighBitsAlone();
        readManyDigitsTooMany();
        readKeepsTheTapeWhenRefused();
        readLongs();
        writeZero();
        writeTheEnds();
        writeLongs();
        writeShorter();
        writeKeepsOutWhenRefused();
        outFirstAndLast();
        outBehindTheEnd();
        outOfNothing();
        outOfTheLongest();
        textOfTheTape();
        textOfOut();
        Bench.finish();
    }

    /** Fills the tape with the digit 1 to that length. */
    private static void fill(Bench b, int length) {
        for (int at = 0; at < length; at += 8) {
            int n = Math.min(8, length - at);
            int before = at;
            b.due("feed(" + n + ", v)", before + n, () -> b.desk.feed(n, EIGHT_ONES));
        }
    }

    private static void feedOneByte() {
        Bench b = new Bench("promise 18, 1 byte");
        b.due("feed", 1, () -> b.desk.feed(1, 0x39));
        b.due("feed of another", 2, () -> b.desk.feed(1, 0x38));
        b.due("read", true, () -> b.desk.read(0));
        b.due("value", 98, () -> b.desk.value(0));
    }

    private static void feedEightBytes() {
        Bench b = new Bench("promise 18, 8 bytes");
        b.due("feed", 8, () -> b.desk.feed(8, 0x3837363534333231L));
        b.due("feed of others", 16, () -> b.desk.feed(8, 0x3132333435363739L));
        b.due("read", true, () -> b.desk.read(0));
        b.due("value", 1234567897654321L, () -> b.desk.value(0));
    }

    /** The bytes above the n lowest are none that a text may have, so one of them would show. */
    private static void feedOnlyTheLowest() {
        for (int i = 1; i <= 8; i++) {
            int n = i;
            long others = n == 8 ? 0 : -1L << 8 * n;
            Bench b = new Bench("promise 18, only the " + n + " lowest bytes");
            b.due("feed", n, () -> b.desk.feed(n, others | 0x3837363534333231L));
            b.due("text(0)", n, () -> b.desk.text(0));
            b.due("read", true, () -> b.desk.read(0));
            b.due("value", Long.parseLong("12345678".substring(0, n)), () -> b.desk.value(0));
        }
    }

    private static void feedAnyByte() {
        Bench b = new Bench("promise 18, bytes that no text has");
        b.due("feed of 0", 1, () -> b.desk.feed(1, 0));
        b.due("feed of 255", 2, () -> b.desk.feed(1, 255));
        b.due("feed of the lowest long", 10, () -> b.desk.feed(8, Long.MIN_VALUE));
        b.due("feed of -1", 18, () -> b.desk.feed(8, -1));
    }

    private static void feedToTheFull() {
        for (int last = 1; last <= 8; last++) {
            int n = last;
            Bench b = new Bench("promise 18, " + n + " bytes that make it just 2600");
            fill(b, TAPE_ROOM - n);
            b.due("feed", TAPE_ROOM, () -> b.desk.feed(n, EIGHT_ONES));
            b.due("text(0)", TAPE_ROOM, () -> b.desk.text(0));
        }
    }

    private static void feedOverTheFull() {
        for (int last = 1; last <= 8; last++) {
            int n = last;
            int length = TAPE_ROOM + 1 - n;
            Bench b = new Bench("promise 18, " + n + " bytes that would make it 2601");
            fill(b, length);
            b.due("feed", Bench.STATE, () -> b.desk.feed(n, 0));
            b.due("text(0)", length, () -> b.desk.text(0));
            if (n > 1) {
                b.due("feed of one less", TAPE_ROOM, () -> b.desk.feed(n - 1, EIGHT_ONES));
            }
            b.due("feed upon a full tape", Bench.STATE, () -> b.desk.feed(1, 0));
            b.due("text(0)", TAPE_ROOM, () -> b.desk.text(0));
        }
    }

    private static void feedArgumentFirst() {
        Bench b = new Bench("promise 18, IllegalArgumentException before IllegalStateException");
        fill(b, TAPE_ROOM);
        for (int n : new int[] {0, -1, 9, Integer.MIN_VALUE, Integer.MAX_VALUE}) {
            b.due("feed(" + n + ", v)", Bench.ARGUMENT, () -> b.desk.feed(n, 0));
        }
        b.due("text(0)", TAPE_ROOM, () -> b.desk.text(0));
    }

    /** A refused feed leaves the bytes as they were, and a tape used up has all its room again. */
    private static void feedBehindAFullTape() {
        Bench b = new Bench("promise 18, behind a refused feed and a tape used up");
        fill(b, TAPE_ROOM);
        b.due("read of 2600 digits", false, () -> b.desk.read(0));
        b.due("feed", 8, () -> b.desk.feed(8, EIGHT_ONES));
        b.due("read", true, () -> b.desk.read(0));
        b.due("value", 11111111, () -> b.desk.value(0));
        fill(b, 16);
        b.due("feed of 9 bytes", Bench.ARGUMENT, () -> b.desk.feed(9, 0));
        b.due("read", true, () -> b.desk.read(0));
        b.due("value", 1111111111111111L, () -> b.desk.value(0));
    }

    private static void readNothing() {
        Bench b = new Bench("promise 19, an empty tape");
        b.does("set", () -> b.desk.set(0, -5));
        b.due("read", false, () -> b.desk.read(0));
        b.holds(0, -5);
        for (String before : new String[] {"8", "-8", "-", "0", "-12"}) {
            b.feed(before);
            b.answer(() -> b.desk.read(1));
            b.due("read of an empty tape behind " + before, false, () -> b.desk.read(0));
            b.holds(0, -5);
        }
    }

    private static void readUsesTheTapeUp() {
        Bench b = new Bench("promise 19, which is used up");
        b.feed("-12");
        b.due("read", true, () -> b.desk.read(0));
        b.due("text(0)", 0, () -> b.desk.text(0));
        b.feed("34");
        b.due("read", true, () -> b.desk.read(0));
        b.holds(0, 34);
        b.feed("5x");
        b.due("read of no text", false, () -> b.desk.read(0));
        b.due("text(0)", 0, () -> b.desk.text(0));
        b.feed("6");
        b.due("read", true, () -> b.desk.read(0));
        b.holds(0, 6);
    }

    private static void noText(String why, String text) {
        Bench b = new Bench("promise 19, no text: " + why);
        b.does("set", () -> b.desk.set(0, -5));
        b.feed(text);
        b.due("read", false, () -> b.desk.read(0));
        b.due("text(0)", 0, () -> b.desk.text(0));
        b.holds(0, -5);
    }

    private static void readNoText() {
        noText("- alone", "-");
        noText("-0", "-0");
        noText("0 twice", "00");
        noText("a leading 0", "01");
        noText("a leading 0 behind -", "-01");
        noText("- and 0 twice", "-00");
        noText("only zeros", "0".repeat(30));
        noText("a leading 0 before a long one", "0" + "1".repeat(40));
        noText("- twice", "--1");
        noText("- at the end", "1-");
        noText("- between", "1-1");
        noText("- behind 0", "0-");
        noText("+", "+1");
    }

    /** Every byte that is no digit, alone, before a digit, behind one, behind - and at the end of a long one. */
    private static void readNoDigit() {
        for (int i = 0; i < 256; i++) {
            if (i >= '0' && i <= '9') {
                continue;
            }
            String c = String.valueOf((char) i);
            String what = "byte " + i;
            noText(what, c);
            noText(what + " behind a digit", "1" + c);
            noText(what + " behind -", "-" + c);
            noText(what + " at the end", "1".repeat(25) + c);
            if (i != '-') {
                noText(what + " before a digit", c + "1");
            }
        }
    }

    private static void readZero() {
        Bench b = new Bench("promise 19, 0 alone");
        b.loadGreatest(0, true);
        b.feed("0");
        b.due("read", true, () -> b.desk.read(0));
        b.holds(0, 0);
        b.due("compare with 0", 0, () -> b.desk.compare(0, 1));
        for (int digit = 1; digit <= 9; digit++) {
            int d = digit;
            b.feed(String.valueOf(d));
            b.due("read of " + d, true, () -> b.desk.read(0));
            b.due("value", d, () -> b.desk.value(0));
            b.feed("-" + d);
            b.due("read of -" + d, true, () -> b.desk.read(0));
            b.due("value", -d, () -> b.desk.value(0));
        }
    }

    private static void readChangesNothingElse() {
        for (String text : new String[] {"-", "44"}) {
            Bench b = new Bench("promise 19, nothing else changes: " + text);
            for (int i = 0; i < 12; i++) {
                int r = i;
                b.does("set", () -> b.desk.set(r, -100 - r));
            }
            b.due("write", 4, () -> b.desk.write(3));
            b.feed(text);
            b.due("read", text.equals("44"), () -> b.desk.read(6));
            for (int i = 0; i < 12; i++) {
                int r = i;
                long want = r == 6 && text.equals("44") ? 44 : -100 - r;
                b.due("value(" + r + ")", want, () -> b.desk.value(r));
            }
            b.outIs("-103");
        }
    }

    private static void readEveryBit() {
        for (String sign : new String[] {"", "-"}) {
            Bench b = new Bench("promise 19, all 8192 bits, " + sign);
            BigInteger end = new BigInteger(sign + Bench.GREATEST);
            b.feed(end.toString());
            b.due("read", true, () -> b.desk.read(0));
            b.due("text(0)", 0, () -> b.desk.text(0));
            b.holdsBriefly(0, end);
        }
    }

    private static void readOneBitTooMany() {
        for (String sign : new String[] {"", "-"}) {
            noText("2 to the 8192, " + sign, sign + Bench.LIMIT);
            noText("2 to the 8192 and 1, " + sign, sign + Bench.LIMIT.add(Bench.ONE));
            noText("2467 digits 9, " + sign, sign + "9".repeat(2467));
        }
    }

    /** Numbers that would be 7 if the bits for which there is no room were lost. */
    private static void readHighBitsAlone() {
        for (int n : new int[] {8192, 8193, 8223, 8224, 8255, 8256, 8257, 8288, 8320, 8448, 8630}) {
            noText("2 to the " + n + " and 7", Bench.ONE.shiftLeft(n).add(BigInteger.valueOf(7)).toString());
        }
    }

    private static void readManyDigitsTooMany() {
        for (int digits : new int[] {2468, 2469, 2476, 2477, 2599}) {
            noText(digits + " digits", "1" + "0".repeat(digits - 1));
            noText(digits + " digits below 0", "-1" + "0".repeat(digits - 1));
        }
        noText("a full tape", "1" + "0".repeat(TAPE_ROOM - 1));
        noText("a full tape of 9", "9".repeat(TAPE_ROOM));
        noText("a full tape that is no text", "0".repeat(TAPE_ROOM));
        noText("a full tape with its last byte no digit", "1".repeat(TAPE_ROOM - 1) + "-");
    }

    private static void readKeepsTheTapeWhenRefused() {
        for (int no : new int[] {-1, 12, Integer.MIN_VALUE, Integer.MAX_VALUE}) {
            Bench b = new Bench("promise 19, with the tape as it was, no register " + no);
            b.feed("-7");
            b.due("read", Bench.ARGUMENT, () -> b.desk.read(no));
            b.due("text(0)", 2, () -> b.desk.text(0));
            b.due("feed behind it", 3, () -> b.desk.feed(1, 0x38));
            b.due("read", true, () -> b.desk.read(0));
            b.holds(0, -78);
            b.feed("-");
            b.due("read of no text", Bench.ARGUMENT, () -> b.desk.read(no));
            b.due("text(0)", 1, () -> b.desk.text(0));
        }
    }

    private static void readLongs() {
        for (long v : new long[] {Long.MIN_VALUE, Long.MAX_VALUE}) {
            Bench b = new Bench("promise 19, " + v);
            b.feed(String.valueOf(v));
            b.due("read", true, () -> b.desk.read(0));
            b.due("value", v, () -> b.desk.value(0));
            BigInteger further = BigInteger.valueOf(v).add(BigInteger.valueOf(Long.signum(v)));
            b.feed(further.toString());
            b.due("read of one further", true, () -> b.desk.read(0));
            b.holds(0, further);
        }
    }

    private static void writeZero() {
        Bench b = new Bench("promise 20, the text of 0");
        b.due("write", 1, () -> b.desk.write(0));
        b.due("out(0)", 0x30, () -> b.desk.out(0));
        b.due("out(1)", Bench.NO_ELEMENT, () -> b.desk.out(1));
        b.does("negate", () -> b.desk.negate(0, 0));
        b.writes(0, "0");
    }

    private static void writeTheEnds() {
        for (boolean below : new boolean[] {false, true}) {
            BigInteger end = below ? Bench.LEAST : Bench.GREATEST;
            Bench b = new Bench("promise 20, the longest text" + (below ? ", with -" : ""));
            b.loadGreatest(0, below);
            b.due("write", below ? 2468 : 2467, () -> b.desk.write(0));
            b.outIs(end.toString());
            b.holdsBriefly(0, end);
        }
    }

    private static void writeLongs() {
        long[] longs = {
            Long.MIN_VALUE, Long.MAX_VALUE, -1, 1, 9, 10, -9, -10, 999999999, 1000000000, -1000000000,
            999999999999999999L, 1000000000000000000L
        };
        Bench b = new Bench("promise 20, how many bytes");
        for (long v : longs) {
            b.does("set", () -> b.desk.set(0, v));
            b.writes(0, String.valueOf(v));
            b.due("value as it was", v, () -> b.desk.value(0));
        }
    }

    private static void writeShorter() {
        Bench b = new Bench("promise 20, a shorter text behind a longer one");
        b.loadGreatest(0, true);
        b.due("write", 2468, () -> b.desk.write(0));
        b.does("set", () -> b.desk.set(1, -4));
        b.due("write", 2, () -> b.desk.write(1));
        b.due("out(0)", 0x342D, () -> b.desk.out(0));
        b.due("out(1)", 0x34, () -> b.desk.out(1));
        b.due("out(2)", Bench.NO_ELEMENT, () -> b.desk.out(2));
        b.due("text(1)", 2, () -> b.desk.text(1));
    }

    private static void writeKeepsOutWhenRefused() {
        for (int no : new int[] {-1, 12}) {
            Bench b = new Bench("promise 20, no register " + no);
            b.due("write before any", Bench.ARGUMENT, () -> b.desk.write(no));
            b.due("text(1)", 0, () -> b.desk.text(1));
            b.does("set", () -> b.desk.set(0, 42));
            b.due("write", 2, () -> b.desk.write(0));
            b.due("write", Bench.ARGUMENT, () -> b.desk.write(no));
            b.outIs("42");
        }
    }

    private static void outFirstAndLast() {
        Bench b = new Bench("promise 21, the first and the last byte");
        b.does("set", () -> b.desk.set(0, -12345678));
        b.due("write", 9, () -> b.desk.write(0));
        b.due("out(0), all eight", 0x373635343332312DL, () -> b.desk.out(0));
        b.due("out(1), the last eight", 0x3837363534333231L, () -> b.desk.out(1));
        b.due("out(8), the last", 0x38, () -> b.desk.out(8));
        b.due("out(9)", Bench.NO_ELEMENT, () -> b.desk.out(9));
        b.due("out(-1)", Bench.NO_ELEMENT, () -> b.desk.out(-1));
    }

    private static void outBehindTheEnd() {
        Bench b = new Bench("promise 21, 0 behind its end");
        b.does("set", () -> b.desk.set(0, 99999999999L));
        b.due("write", 11, () -> b.desk.write(0));
        b.does("set", () -> b.desk.set(0, 1234567));
        b.due("write", 7, () -> b.desk.write(0));
        long bytes = 0x37363534333231L;
        for (int i = 0; i < 7; i++) {
            int k = i;
            b.due("out(" + k + ")", bytes >>> 8 * k, () -> b.desk.out(k));
        }
    }

    private static void outOfNothing() {
        Bench b = new Bench("promise 21, an empty OUT");
        for (int k : new int[] {0, 1, -1, 7, 8, 2467, 2468, Integer.MIN_VALUE, Integer.MAX_VALUE}) {
            b.due("out(" + k + ")", Bench.NO_ELEMENT, () -> b.desk.out(k));
        }
        b.feed("123");
        b.due("out(0) with a tape", Bench.NO_ELEMENT, () -> b.desk.out(0));
    }

    private static void outOfTheLongest() {
        Bench b = new Bench("promise 21, the longest OUT");
        b.loadGreatest(0, true);
        b.due("write", 2468, () -> b.desk.write(0));
        String text = Bench.LEAST.toString();
        for (int i = 2459; i < 2468; i++) {
            int k = i;
            String piece = text.substring(k, Math.min(k + 8, text.length()));
            b.due("out(" + k + ")", Bench.pack(piece.getBytes()), () -> b.desk.out(k));
        }
        for (int k : new int[] {2468, 2469, -1, Integer.MIN_VALUE, Integer.MAX_VALUE}) {
            b.due("out(" + k + ")", Bench.NO_ELEMENT, () -> b.desk.out(k));
        }
    }

    private static void textOfTheTape() {
        Bench b = new Bench("promise 22, how many bytes the tape has");
        b.due("none", 0, () -> b.desk.text(0));
        b.due("write", 1, () -> b.desk.write(0));
        b.due("none behind write", 0, () -> b.desk.text(0));
        fill(b, TAPE_ROOM);
        b.due("a full one", TAPE_ROOM, () -> b.desk.text(0));
        b.due("read", false, () -> b.desk.read(0));
        b.due("one used up", 0, () -> b.desk.text(0));
    }

    private static void textOfOut() {
        Bench b = new Bench("promise 22, how many bytes OUT has");
        b.due("nothing", 0, () -> b.desk.text(1));
        b.feed("123");
        b.due("nothing behind feed", 0, () -> b.desk.text(1));
        b.due("read", true, () -> b.desk.read(1));
        b.due("nothing behind read", 0, () -> b.desk.text(1));
        b.due("write", 1, () -> b.desk.write(0));
        b.due("0", 1, () -> b.desk.text(1));
        b.loadGreatest(0, true);
        b.due("write", 2468, () -> b.desk.write(0));
        b.due("the longest", 2468, () -> b.desk.text(1));
    }
}
