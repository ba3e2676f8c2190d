/** Promises 6, 7 and 40 to 48: requests, caches, plans. */
public final class ClientsTest {
    private static final Check check = new Check();

    // The slots are 0 1 2 3.
    private static final String FOUR = "index 0 1;disk 1;item 5 0 0;item 3 0 0;item 3 0 0;item 9 0 0;"
            + "client 2 lru;client 2 lfu;client 2 pix;client 0 lfu;";

    public static void main(String[] args) {
        values();
        lru();
        lfu();
        lfuByTime();
        pix();
        pixByFrequency();
        pixFollowsTheSettings();
        noRoom();
        listening();
        thinking();
        clientsAreApart();
        victims();
        soonestOnes();
        hints();
        plans();
        plansWithCaches();
        check.end();
    }

    private static void asks(BroadcastCarousel x, int client, int item, int wait, int cache) {
        check.due("44: victim(" + client + ", " + item + ") foretells", removedBy(x, client, item, cache),
                () -> x.victim(client, item));
        check.due("6: request(" + client + ", " + item + ")", wait, () -> x.request(client, item));
        check.due("42: cache(" + client + ")", cache, () -> x.cache(client));
    }

    private static int removedBy(BroadcastCarousel x, int client, int item, int cacheDue) {
        int removed = (x.cache(client) | 1 << item) & ~cacheDue;
        return removed == 0 ? -2 : Integer.numberOfTrailingZeros(removed);
    }

    private static void values(String when, BroadcastCarousel x, int client, int... due) {
        for (int what = 0; what < due.length; what++) {
            int property = what;
            check.due("41: clientValue(" + client + ", " + what + ") " + when, due[what],
                    () -> x.clientValue(client, property));
        }
    }

    private static void values() {
        BroadcastCarousel x = Check.with(FOUR);
        check.due("40: clientCount()", 4, x::clientCount);
        check.due("40: without clients", 0, () -> Check.with("index 0 1;disk 1;item 5 0 0;").clientCount());
        values("at first", x, 0, 0, 0, 0, 0, 0, 2);
        values("at first", x, 3, 0, 0, 0, 0, 0, 0);
        x.request(0, 2);
        x.request(0, 2);
        x.request(0, 0);
        values("behind two misses and a hit", x, 0, 5, 1, 2, 5, 5, 2);
        check.due("43: requests(0, 2)", 2, () -> x.requests(0, 2));
        check.due("43: requests(0, 0)", 1, () -> x.requests(0, 0));
        check.due("43: requests(0, 1)", 0, () -> x.requests(0, 1));
        check.due("43: requests(1, 2)", 0, () -> x.requests(1, 2));
    }

    private static void lru() {
        BroadcastCarousel x = Check.with(FOUR);
        asks(x, 0, 0, 1, 1);
        asks(x, 0, 1, 1, 3);
        asks(x, 0, 0, 0, 3);
        asks(x, 0, 2, 1, 5);
        asks(x, 0, 1, 3, 6);
        asks(x, 0, 3, 2, 10);
    }

    private static void lfu() {
        BroadcastCarousel x = Check.with(FOUR);
        asks(x, 1, 0, 1, 1);
        asks(x, 1, 1, 1, 3);
        asks(x, 1, 1, 0, 3);
        // 0 and 2 were requested once, 0 longer ago.
        asks(x, 1, 2, 1, 6);
        asks(x, 1, 3, 1, 10);
        // The request of 2 before it was removed counts: 3 goes, though it came later than 1.
        asks(x, 1, 2, 3, 6);
    }

    private static void lfuByTime() {
        BroadcastCarousel x = Check.with(FOUR);
        asks(x, 1, 3, 4, 8);
        asks(x, 1, 3, 0, 8);
        asks(x, 1, 0, 1, 9);
        asks(x, 1, 0, 0, 9);
        // The one that has just come is removed: it was requested least often.
        asks(x, 1, 1, 1, 9);
        // Twice each now; 3 was requested longest ago.
        asks(x, 1, 1, 4, 3);
    }

    private static void pix() {
        BroadcastCarousel x = Check.with(FOUR);
        asks(x, 2, 3, 4, 8);
        asks(x, 2, 0, 1, 9);
        asks(x, 2, 1, 1, 9);
        asks(x, 2, 2, 1, 9);
        BroadcastCarousel y = Check.with(FOUR);
        asks(y, 2, 2, 3, 4);
        asks(y, 2, 1, 3, 6);
        // 1 and 2 have the same quotient: the lowest number goes, though it came last.
        asks(y, 2, 0, 3, 5);
        // The same, and it is the one that has just come.
        asks(y, 2, 1, 1, 5);
    }

    private static void pixByFrequency() {
        // 9 / 6, 4 / 3 and 3 / 2: compared exactly, 4 / 3 is least; truncated all are 1.
        BroadcastCarousel x = Check.with("index 0 1;disk 6;disk 3;disk 2;item 9 0 0;item 4 1 0;item 3 2 0;client 2 pix;");
        x.request(0, 1);
        x.request(0, 0);
        check.due("44: victim(0, 2)", 1, () -> x.victim(0, 2));
        x.request(0, 2);
        check.due("42: cache(0)", 5, () -> x.cache(0));
        x.setPopularity(1, 99);
        // 9 / 6 and 3 / 2 are equal.
        check.due("44: victim(0, 1)", 0, () -> x.victim(0, 1));
    }

    private static void pixFollowsTheSettings() {
        BroadcastCarousel x = Check.with("index 0 1;disk 1;disk 2;item 5 0 0;item 6 0 0;item 7 0 0;client 2 pix;");
        x.request(0, 0);
        x.request(0, 1);
        check.due("44: victim(0, 2)", 0, () -> x.victim(0, 2));
        x.setPopularity(0, 8);
        check.due("44: victim(0, 2)", 1, () -> x.victim(0, 2));
        x.moveItem(2, 1);
        check.due("44: victim(0, 2)", 2, () -> x.victim(0, 2));
        x.setFrequency(1, 1);
        check.due("44: victim(0, 2)", 1, () -> x.victim(0, 2));
    }

    private static void noRoom() {
        BroadcastCarousel x = Check.with(FOUR);
        asks(x, 3, 2, 3, 0);
        asks(x, 3, 2, 4, 0);
        asks(x, 3, 3, 1, 0);
        values("without room", x, 3, 8, 0, 3, 8, 8, 0);
        check.due("43: requests(3, 2)", 2, () -> x.requests(3, 2));
        BroadcastCarousel y = Check.with("index 0 1;disk 1;item 5 0 0;item 5 0 0;client 4 lru;");
        asks(y, 0, 1, 2, 2);
        asks(y, 0, 0, 1, 3);
        check.due("44: victim of a hit", -2, () -> y.victim(0, 1));
    }

    private static void listening() {
        // -3 -4 0 1 2 3: who begins at 0 hears the segment and the item.
        BroadcastCarousel x = Check.with("index 1 2;disk 1;item 5 0 0;item 3 0 0;item 3 0 0;item 9 0 0;client 1 lru;");
        check.due("6: request(0, 1)", 4, () -> x.request(0, 1));
        values("behind one miss", x, 0, 4, 0, 1, 4, 3, 1);
        check.due("6: request(0, 2) at its slot", 1, () -> x.request(0, 2));
        values("behind two misses", x, 0, 5, 0, 2, 5, 4, 1);
        check.due("6: request(0, 0)", 4, () -> x.request(0, 0));
        values("behind three misses", x, 0, 9, 0, 3, 9, 8, 1);
        check.due("6: a hit", 0, () -> x.request(0, 0));
        values("behind a hit", x, 0, 9, 1, 3, 9, 8, 1);
    }

    private static void thinking() {
        BroadcastCarousel x = Check.with(FOUR);
        check.due("7: think(0, 1)", 1, () -> x.think(0, 1));
        check.due("7: think(0, 9999)", 10000, () -> x.think(0, 9999));
        values("behind thinking", x, 0, 10000, 0, 0, 0, 0, 2);
        check.due("6: request(0, 3)", 4, () -> x.request(0, 3));
        check.due("7: think(0, 2)", 10006, () -> x.think(0, 2));
        check.due("7: the others do not think", 0, () -> x.clientValue(1, 0));
    }

    private static void clientsAreApart() {
        BroadcastCarousel x = Check.with(FOUR);
        x.request(0, 0);
        x.request(1, 1);
        check.due("42: cache(0)", 1, () -> x.cache(0));
        check.due("42: cache(1)", 2, () -> x.cache(1));
        check.due("42: cache(2)", 0, () -> x.cache(2));
        check.due("6: request(1, 0)", 3, () -> x.request(1, 0));
        check.due("41: time of 0", 1, () -> x.clientValue(0, 0));
        check.due("41: time of 1", 5, () -> x.clientValue(1, 0));
    }

    private static void victims() {
        BroadcastCarousel x = Check.with(FOUR);
        check.due("44: victim with room", -2, () -> x.victim(0, 1));
        check.due("44: victim without room at all", 1, () -> x.victim(3, 1));
        x.request(0, 0);
        x.request(0, 1);
        check.due("44: victim of one in the cache", -2, () -> x.victim(0, 0));
        check.due("44: victim(0, 2)", 0, () -> x.victim(0, 2));
        check.due("44: it changes nothing", 3, () -> x.cache(0));
        check.due("44: it changes nothing", 0, () -> x.requests(0, 2));
        x.request(0, 0);
        check.due("44: victim(0, 2)", 1, () -> x.victim(0, 2));
    }

    private static void soonestOnes() {
        BroadcastCarousel x = Check.with(FOUR);
        check.due("45: soonest of all", 0, () -> x.soonest(0, 15));
        check.due("45: soonest(0, 12)", 2, () -> x.soonest(0, 12));
        x.think(0, 3);
        check.due("45: soonest at 3", 3, () -> x.soonest(0, 15));
        check.due("45: soonest at 3", 0, () -> x.soonest(0, 7));
        x.request(0, 1);
        x.request(0, 2);
        // At 7 item 3 has a wait of 1, but 1 and 2 are in the cache.
        check.due("45: the cache is sooner", 1, () -> x.soonest(0, 15));
        check.due("45: the cache is sooner", 2, () -> x.soonest(0, 12));
        check.due("45: soonest(0, 9)", 3, () -> x.soonest(0, 9));
        x.request(0, 0);
        check.due("45: item 0 in the cache", 0, () -> x.soonest(0, 15));
        // With an index: -3 0 1 2; at 1 item 0 is there, 1 and 2 wait for the index.
        BroadcastCarousel y = Check.with("index 1 1;disk 1;item 5 0 0;item 5 0 0;item 5 0 0;client 1 lru;client 1 lru;");
        y.think(0, 2);
        check.due("45: soonest at 2", 1, () -> y.soonest(0, 7));
        check.due("45: soonest at 2", 0, () -> y.soonest(0, 5));
    }

    private static void hints() {
        BroadcastCarousel x = Check.with(FOUR);
        check.due("46: hint of an empty cache", -2, () -> x.hint(0));
        check.due("46: hint without room", -2, () -> x.hint(3));
        x.request(0, 1);
        check.due("46: hint of one", 1, () -> x.hint(0));
        x.request(0, 3);
        check.due("46: hint at 4", 1, () -> x.hint(0));
        x.think(0, 2);
        check.due("46: hint at 6", 3, () -> x.hint(0));
        check.due("46: a hit passes no time", 0, () -> x.request(0, 1));
        check.due("46: hint at 6", 3, () -> x.hint(0));
        // By access, not by the next slot: -3 0 1 at 1: 0 is there; at 2 item 1 is there.
        BroadcastCarousel y = Check.with("index 1 1;disk 1;item 5 0 0;item 5 0 0;client 2 lru;");
        y.request(0, 0);
        y.request(0, 1);
        check.due("46: hint at 3", 0, () -> y.hint(0));
        y.think(0, 2);
        check.due("46: hint at 5", 1, () -> y.hint(0));
    }

    private static void plan(BroadcastCarousel x, int client, int set, int time, int... order) {
        check.due("47: planTime(" + client + ", " + set + ")", time, () -> x.planTime(client, set));
        for (int n = 0; n < order.length; n++) {
            int place = n;
            check.due("48: planItem(" + client + ", " + set + ", " + n + ")", order[n],
                    () -> x.planItem(client, set, place));
        }
        check.due("48: planItem behind the last", -2, () -> x.planItem(client, set, order.length));
        check.due("48: planItem(MAX)", -2, () -> x.planItem(client, set, Integer.MAX_VALUE));
    }

    private static void plans() {
        BroadcastCarousel x = Check.with(FOUR);
        plan(x, 0, 1, 1, 0);
        plan(x, 0, 15, 4, 0, 1, 2, 3);
        x.think(0, 2);
        plan(x, 0, 10, 6, 3, 1);
        plan(x, 0, 15, 6, 2, 3, 0, 1);
        check.due("47: it changes nothing", 2, () -> x.clientValue(0, 0));
        check.due("47: it changes nothing", 0, () -> x.cache(0));
        BroadcastCarousel y = Check.with("index 0 1;disk 1;" + "item 5 0 0;".repeat(7) + "client 0 lru;client 4 lru;");
        y.think(0, 3);
        plan(y, 0, 124, 10, 3, 4, 5, 6, 2);
    }

    private static void plansWithCaches() {
        // One place: to request 1 drives 0 out, so 0 comes first.
        BroadcastCarousel x = Check.with("index 0 1;disk 1;" + "item 5 0 0;".repeat(4) + "client 1 lru;client 2 lru;");
        x.request(0, 0);
        plan(x, 0, 3, 2, 0, 1);
        plan(x, 0, 15, 4, 0, 1, 2, 3);
        // 3 in the cache comes before 0, though 0 is lower.
        x.undo();
        x.request(0, 3);
        plan(x, 0, 9, 5, 3, 0);
        // All in the cache: any order takes no time, and the lexicographically least is told.
        x.request(1, 2);
        x.request(1, 1);
        plan(x, 1, 6, 6, 1, 2);
        // Two of several orders with the same end.
        plan(x, 1, 14, 8, 1, 2, 3);
    }
}
