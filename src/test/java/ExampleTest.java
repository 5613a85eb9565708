/** The example that README.md shows: the same lines, and what it says of them. */
public final class ExampleTest {
    public static void main(String[] args) {
        BigDesk desk = new BigDesk();
        desk.set(0, -7);
        desk.set(1, 2);
        desk.divide(2, 3, 0, 1);
        Bench.check("README.md, the quotient", desk.value(2), -4L);
        Bench.check("README.md, the rest", desk.value(3), 1L);

        desk.shift(1, 1, 8190);
        Bench.check("README.md, the bits", desk.look(1, 1), 8192);
        Bench.check("README.md, no number", Bench.answerOf(() -> desk.add(1, 1, 1)), Bench.STATE);
        Bench.check("README.md, the bits behind it", desk.look(1, 1), 8192);

        desk.feed(3, 0x31322DL);
        Bench.check("README.md, a good text", desk.read(4), true);
        Bench.check("README.md, the number read", desk.value(4), -21L);
        Bench.check("README.md, the tape behind it", desk.text(0), 0);
        Bench.check("README.md, the length written", desk.write(4), 3);
        Bench.check("README.md, the bytes of OUT", desk.out(0), 0x31322DL);
        Bench.finish();
    }
}
