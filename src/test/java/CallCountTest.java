/**
 * 'An object is used for at most 512 calls after it has been made': one kind of call again and again on one object,
 * with the answer that is due each time, and the 512th call as good as the first.
 */
public final class CallCountTest {
    private static final int CALLS = 512;
    private static final long X = 84;
    private static final long Y = -36;
    private static final int TO = 2;

    interface Use {
        Object on(BigDesk desk);
    }

    interface Change {
        void on(BigDesk desk);
    }

    public static void main(String[] args) {
        registers();
        reckoning();
        looks();
        texts();
        refusals();
        Bench.finish();
    }

    private static Bench laid(String name) {
        Bench b = new Bench(name + ", 512 calls");
        b.does("set(0, v)", () -> b.desk.set(0, X));
        b.does("set(1, v)", () -> b.desk.set(1, Y));
        return b;
    }

    private static void answers(String name, Object due, Use use) {
        Bench b = laid(name);
        for (int call = 3; call <= CALLS; call++) {
            b.due("call " + call, due, () -> use.on(b.desk));
        }
    }

    private static void becomes(String name, long due, Change change) {
        Bench b = laid(name);
        for (int call = 3; call < CALLS; call++) {
            b.does("call " + call, () -> change.on(b.desk));
        }
        b.due("the last call, value(" + TO + ")", due, () -> b.desk.value(TO));
    }

    private static void refuses(String name, String exception, Change change) {
        Bench b = laid(name);
        for (int call = 3; call < CALLS; call++) {
            b.does("call " + call, exception, () -> change.on(b.desk));
        }
        b.due("the last call, value(0)", X, () -> b.desk.value(0));
    }

    private static void registers() {
        becomes("promise 2", Long.MIN_VALUE, d -> d.set(TO, Long.MIN_VALUE));
        becomes("promise 3", Y, d -> d.copy(TO, 1));
        becomes("promise 12", -X, d -> d.negate(TO, 0));
        // Each call turns the sign of the one before it; 509 calls turn it an odd number of times.
        Bench b = laid("promise 12 on one register");
        for (int call = 3; call < CALLS; call++) {
            b.does("call " + call, () -> b.desk.negate(0, 0));
        }
        b.due("the last call, value(0)", -X, () -> b.desk.value(0));
    }

    private static void reckoning() {
        becomes("promise 4", 48, d -> d.add(TO, 0, 1));
        becomes("promise 4, each sum on the one before it", 509 * X, d -> d.add(TO, TO, 0));
        becomes("promise 5", 120, d -> d.subtract(TO, 0, 1));
        becomes("promise 5, each difference from the one before it", -509 * X, d -> d.subtract(TO, TO, 0));
        becomes("promise 6", -3024, d -> d.multiply(TO, 0, 1));
        becomes("promise 7", -588, d -> d.times(TO, 0, -7));
        becomes("promise 8", 672, d -> d.shift(TO, 0, 3));
        becomes("promise 9", -5, d -> d.half(TO, 1, 3));
        becomes("promise 10, the quotient", -3, d -> d.divide(TO, 3, 0, 1));
        becomes("promise 10, the rest", -24, d -> d.divide(3, TO, 0, 1));
        becomes("promise 11", 12, d -> d.gcd(TO, 0, 1));
    }

    private static void looks() {
        answers("promise 13", 1, d -> d.compare(0, 1));
        answers("promise 14", 4, d -> d.rest(1, 10));
        answers("promise 15", Y, d -> d.value(1));
        answers("promise 16", -Y, d -> d.limb(1, 0));
        answers("promise 17", 7, d -> d.look(0, 1));
    }

    private static void texts() {
        answers("promise 19", false, d -> d.read(TO));
        answers("promise 20", 3, d -> d.write(1));
        answers("promise 22", 0, d -> d.text(0));
        Bench b = laid("promise 18");
        for (int call = 3; call <= CALLS; call++) {
            int length = 5 * (call - 2);
            b.due("call " + call, length, () -> b.desk.feed(5, 0x3131313131L));
        }
        Bench c = laid("promise 19, a text each time");
        for (int call = 3; call < CALLS; call += 2) {
            c.due("call " + call, 1, () -> c.desk.feed(1, 0x37));
            c.due("the call behind it", true, () -> c.desk.read(TO));
        }
        Bench e = laid("promise 21");
        e.due("write(1)", 3, () -> e.desk.write(1));
        for (int call = 4; call <= CALLS; call++) {
            e.due("call " + call, 0x36332DL, () -> e.desk.out(0));
        }
    }

    private static void refusals() {
        refuses("promise 3, no register", Bench.ARGUMENT, d -> d.copy(0, 12));
        refuses("promise 8, no number", Bench.STATE, d -> d.shift(0, 0, 8192));
        refuses("promise 10, by 0", Bench.ARITHMETIC, d -> d.divide(0, 1, 0, TO));
        refuses("promise 21, no byte", Bench.NO_ELEMENT, d -> d.out(0));
    }
}
