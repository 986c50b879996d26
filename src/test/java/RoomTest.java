import java.lang.management.ManagementFactory;

/** All calls of a run live in one room: calls make no objects of their own, and a new object is small. */
public final class RoomTest {
    private static final com.sun.management.ThreadMXBean THREADS =
        (com.sun.management.ThreadMXBean) ManagementFactory.getThreadMXBean();

    public static void main(String[] args) {
        // the first round loads classes, which is not the calls' own doing
        run(new PocketKeeper());
        made();
        long begin = made();
        PocketKeeper x = new PocketKeeper();
        long ofNew = made() - begin;
        begin = made();
        run(x);
        long ofCalls = made() - begin;
        Due.holds("a new object takes " + ofNew + " bytes", ofNew < 16_000);
        Due.holds("510 calls take " + ofCalls + " bytes", ofCalls < 1_000);
        System.out.println("a new object: " + ofNew + " bytes, 510 calls: " + ofCalls + " bytes");
        Due.end();
    }

    private static long made() {
        return THREADS.getThreadAllocatedBytes(Thread.currentThread().getId());
    }

    private static void run(PocketKeeper x) {
        long sum = 0;
        String text = "ab,cd,ae,bc,df,ab,gh,bh";
        for (int i = 0; i < text.length(); i++) {
            sum += x.letter(text.charAt(i));
        }
        sum += x.fault() + x.jobs();
        for (int i = 0; i < 97; i++) {
            sum += x.breaks(i & 7, (i >> 3) & 7, (i & 1) == 0);
            sum += x.pair(i % 3) + x.plan(i & 7, i & 3);
            sum += x.swap(i & 7, (i * 5) & 7);
            sum += x.digest();
        }
        if (sum == 0) {
            System.out.println("the sum is nought");
        }
    }
}
