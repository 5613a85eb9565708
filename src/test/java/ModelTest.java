import java.math.BigInteger;
import java.util.Random;

/** Mixed runs of all calls, drawn with fixed seeds, on the class and on the model side by side. */
public final class ModelTest {
    private static final int RUNS = 400;
    private static final int DRAWN_CALLS = 85;
    private static final int KINDS = 21;
    private static final long[] EDGES = {
        0, 1, -1, 2, -2, 10, 0xFFFFFFFFL, 1L << 32, (1L << 32) + 1, -(1L << 32), 1L << 62, Long.MAX_VALUE,
        Long.MIN_VALUE, Long.MIN_VALUE + 1, 1000000000
    };
    private static final int[] NEAR = {-1, 1, -2, 2, -31, 31, -32, 32, -33, 33};

    private final Random random;
    private final Bench bench;
    private final BigDesk desk;
    private final Model model = new Model();

    private ModelTest(int seed) {
        random = new Random(seed);
        bench = new Bench("run " + seed);
        desk = bench.desk;
    }

    public static void main(String[] args) {
        for (int seed = 1; seed <= RUNS; seed++) {
            new ModelTest(seed).run();
        }
        Bench.finish();
    }

    private void run() {
        for (int r = 0; r < 12; r++) {
            layLongOne(r);
        }
        for (int i = 0; i < DRAWN_CALLS; i++) {
            int r = register();
            draw(r);
            if (r >= 0 && r < 12) {
                bench.holdsBriefly(r, model.register(r));
            }
        }
        for (int r = 0; r < 12; r++) {
            BigInteger v = model.register(r);
            int a = r;
            bench.due("rest(" + r + ", m) at last", v.mod(BigInteger.valueOf(Long.MAX_VALUE)),
                () -> desk.rest(a, Long.MAX_VALUE));
        }
    }

    private void both(String what, Bench.Call onDesk, Bench.Call onModel) {
        bench.due(what, Bench.answerOf(onModel), onDesk);
    }

    private void bothDo(String what, Bench.Act onDesk, Bench.Act onModel) {
        bench.does(what, Bench.answerOf(onModel), onDesk);
    }

    /** Few calls to many bits: squares of a long are dense, and a shift leaves long rows of ones or zeros. */
    private void layLongOne(int r) {
        long v = number();
        bothDo("set", () -> desk.set(r, v), () -> model.set(r, v));
        int squares = random.nextInt(3);
        for (int i = 0; i < squares; i++) {
            bothDo("multiply", () -> desk.multiply(r, r, r), () -> model.multiply(r, r, r));
        }
        int n = shiftFor(r);
        bothDo("shift", () -> desk.shift(r, r, n), () -> model.shift(r, r, n));
        int a = random.nextInt(r + 1);
        bothDo("subtract", () -> desk.subtract(r, r, a), () -> model.subtract(r, r, a));
    }

    private int register() {
        return random.nextInt(60) == 0 ? random.nextBoolean() ? -1 : 12 : random.nextInt(12);
    }

    private long number() {
        return random.nextBoolean() ? EDGES[random.nextInt(EDGES.length)] : random.nextLong() >> random.nextInt(64);
    }

    private int shiftFor(int a) {
        int free = a >= 0 && a < 12 ? 8192 - model.register(a).abs().bitLength() : 0;
        int kind = random.nextInt(4);
        int near = NEAR[random.nextInt(NEAR.length)];
        return kind == 0 ? free : kind == 1 ? free + near : kind == 2 ? near : random.nextInt(free + 1);
    }

    private void draw(int r) {
        int a = register();
        int b = register();
        int s = register();
        int small = random.nextInt(10) - 1;
        long v = number();
        int kind = random.nextInt(KINDS);
        if (kind < 10) {
            drawReckoning(kind, r, s, a, b, v);
        } else {
            drawRest(kind, r, a, small, v);
        }
    }

    private void drawReckoning(int kind, int r, int s, int a, int b, long v) {
        String names = "(" + r + ", " + a + ", " + b + ")";
        int n = shiftFor(a);
        switch (kind) {
            case 0 -> bothDo("set", () -> desk.set(r, v), () -> model.set(r, v));
            case 1 -> bothDo("copy" + names, () -> desk.copy(r, a), () -> model.copy(r, a));
            case 2 -> bothDo("add" + names, () -> desk.add(r, a, b), () -> model.add(r, a, b));
            case 3 -> bothDo("subtract" + names, () -> desk.subtract(r, a, b), () -> model.subtract(r, a, b));
            case 4 -> bothDo("multiply" + names, () -> desk.multiply(r, a, b), () -> model.multiply(r, a, b));
            case 5 -> bothDo("times " + v, () -> desk.times(r, a, v), () -> model.times(r, a, v));
            case 6 -> bothDo("shift by " + n, () -> desk.shift(r, a, n), () -> model.shift(r, a, n));
            case 7 -> bothDo("half by " + n, () -> desk.half(r, a, n), () -> model.half(r, a, n));
            case 8 -> bothDo("divide" + names, () -> desk.divide(r, s, a, b), () -> model.divide(r, s, a, b));
            default -> bothDo("gcd" + names, () -> desk.gcd(r, a, b), () -> model.gcd(r, a, b));
        }
    }

    private void drawRest(int kind, int r, int a, int small, long v) {
        int limb = random.nextInt(260) - 2;
        int k = random.nextInt(model.text(1) + 10) - 1;
        long bytes = 0x3130393837363534L + (random.nextInt(4) == 0 ? random.nextInt(256) : 0);
        switch (kind) {
            case 10 -> bothDo("negate", () -> desk.negate(r, a), () -> model.negate(r, a));
            case 11 -> both("compare", () -> desk.compare(r, a), () -> model.compare(r, a));
            case 12 -> both("rest by " + v, () -> desk.rest(a, v), () -> model.rest(a, v));
            case 13 -> both("value", () -> desk.value(a), () -> model.value(a));
            case 14 -> both("limb " + limb, () -> desk.limb(a, limb), () -> model.limb(a, limb));
            case 15 -> both("look " + small, () -> desk.look(a, small), () -> model.look(a, small));
            case 16 -> both("feed " + small, () -> desk.feed(small, bytes), () -> model.feed(small, bytes));
            case 17 -> both("read", () -> desk.read(r), () -> model.read(r));
            case 18 -> both("write", () -> desk.write(a), () -> model.write(a));
            case 19 -> both("out " + k, () -> desk.out(k), () -> model.out(k));
            default -> both("text " + small, () -> desk.text(small), () -> model.text(small));
        }
    }
}
