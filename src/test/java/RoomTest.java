import java.lang.management.ManagementFactory;

/** All that a carousel needs is made with it: the calls, the dearest ones too, make no object. */
public final class RoomTest {
    private static final Check check = new Check();
    private static final String LARGE = "index 8 4;disk 4;disk 5;disk 6;disk 3;"
            + "item 9 0 0;item 8 1 9;item 7 3 9;" + "item 1 2 9;".repeat(13)
            + "client 4 lru;client 4 lfu;client 3 pix;client 0 pix;";
    private static final long MOST_FOR_AN_OBJECT = 64 * 1024;
    private static final long MOST_FOR_ALL_CALLS = 16 * 1024;

    public static void main(String[] args) {
        allocated();
        run(new BroadcastCarousel());
        long start = allocated();
        BroadcastCarousel x = new BroadcastCarousel();
        long made = allocated();
        run(x);
        long end = allocated();
        System.out.println("an object takes " + (made - start) + " bytes, its calls " + (end - made));
        check.dueText("an object is small", "true", "" + (made - start < MOST_FOR_AN_OBJECT));
        check.dueText("calls make nothing", "true", "" + (end - made < MOST_FOR_ALL_CALLS));
        check.end();
    }

    private static long allocated() {
        com.sun.management.ThreadMXBean beans = (com.sun.management.ThreadMXBean) ManagementFactory.getThreadMXBean();
        return beans.getThreadAllocatedBytes(Thread.currentThread().getId());
    }

    /** Less than 512 calls, of every kind, with the most work a call can have. */
    private static void run(BroadcastCarousel x) {
        Check.put(x, LARGE);
        x.load();
        for (int n = 0; n < 9; n++) {
            x.setIndex(8 - n % 3, 1 + n % 4);
            x.weight(99);
            x.bestSegments(99);
            x.worstTime(65535);
            x.worstAccess(n);
            x.meanAccess(n);
            x.leastWorth();
            x.tierSize(4, 3);
            x.tierWeight(4);
            x.itemRank(n);
            x.diskRank(n % 4);
            x.afterRepair();
            x.bestDisk(n);
            x.slotAt(n);
            x.violations();
            x.request(0, n);
            x.request(1, n);
            x.request(2, n);
            x.request(3, n);
            x.think(0, 9999);
            x.victim(0, 15);
            x.soonest(0, 65535);
            x.hint(0);
            x.planTime(1, 31 << n);
            x.planItem(2, 31 << n, 4);
            x.setPopularity(n, 50);
            x.setBound(n, 30);
            x.setFrequency(n % 4, 1 + n % 6);
            x.moveItem(n, n % 4);
            x.repair();
            x.applyTiers(4);
            x.undo();
        }
    }
}
