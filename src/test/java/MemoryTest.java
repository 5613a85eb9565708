import java.lang.management.ManagementFactory;

/** All memory is made with the object: calls that do not throw make none, and an object stays small. */
public final class MemoryTest {
    /** What the measuring itself may cost; the 480 calls of one round would make more if each made one object. */
    private static final long SLACK_BYTES = 4096;
    /** 512 objects of this size still stay below what one run's room holds. */
    private static final long MOST_OBJECT_BYTES = 100000;

    public static void main(String[] args) {
        com.sun.management.ThreadMXBean bean =
            (com.sun.management.ThreadMXBean) ManagementFactory.getThreadMXBean();
        long id = Thread.currentThread().getId();
        round(new BigDesk());
        long start = bean.getThreadAllocatedBytes(id);
        BigDesk desk = new BigDesk();
        long made = bean.getThreadAllocatedBytes(id);
        round(desk);
        long end = bean.getThreadAllocatedBytes(id);
        Bench.check("a new object is small (" + (made - start) + " bytes)", made - start < MOST_OBJECT_BYTES, true);
        Bench.check("calls make nothing (" + (end - made) + " bytes)", end - made < SLACK_BYTES, true);
        Bench.finish();
    }

    private static void round(BigDesk desk) {
        desk.set(0, Long.MIN_VALUE);
        desk.set(1, Long.MAX_VALUE);
        for (int i = 0; i < 5; i++) {
            desk.multiply(0, 0, 0);
            desk.multiply(1, 1, 1);
        }
        for (int i = 0; i < 24; i++) {
            desk.copy(2, 0);
            desk.add(3, 0, 1);
            desk.subtract(4, 0, 1);
            desk.times(5, 1, i);
            desk.shift(6, 1, i);
            desk.half(7, 0, i);
            desk.divide(8, 9, 3, 1);
            desk.gcd(10, 0, 1);
            desk.negate(11, 10);
            desk.compare(3, 4);
            desk.rest(0, 1000000007L + i);
            desk.value(10);
            desk.limb(0, i);
            desk.look(0, 3);
            desk.feed(8, 0x3131313131313131L);
            desk.read(11);
            desk.write(4);
            desk.out(i);
            desk.text(0);
        }
    }
}
