/** The edges of part 5 and of promises 6, 7 and 40 to 48: requests, caches, plans. */
final class ClientEdges {
    private static final String INDEX = "index 0 1;";
    // The slots are 0 1 2 3 4 5.
    private static final String SIX = INDEX + "disk 1;" + "item 5 0 0;".repeat(6);
    private static final String ALL = SIX + "client 1 lru;client 2 lru;client 3 lru;client 4 lru;";

    private final Edges e;

    ClientEdges(Edges edges) {
        e = edges;
    }

    void look() {
        atFirst();
        atMost();
        atTheTimeOfTheClient();
        hits();
        misses();
        lru();
        lfu();
        pix();
        allRequests();
        requests();
        thinking();
        counts();
        values();
        caches();
        victims();
        soonest();
        hints();
        planTimes();
        planItems();
    }

    // ---- part 5

    private void atFirst() {
        e.part(5, "Each client has a time (0 at first) and a cache (empty at first) of at most C items.");
        for (int client = 0; client < 4; client++) {
            e.due(Check.with(ALL), "clientValue(" + client + ", 0)", 0);
            e.due(Check.with(ALL), "cache(" + client + ")", 0);
        }
    }

    private void atMost() {
        e.part(5, "a cache (empty at first) of at most C items");
        BroadcastCarousel x = Check.with(ALL);
        for (int client = 0; client < 4; client++) {
            int capacity = client + 1;
            for (int item = 0; item < 6; item++) {
                e.due(x, "victim(" + client + ", " + item + ")", item < capacity ? -2 : item - capacity);
                e.due(x, "request(" + client + ", " + item + ")", 1);
                int set = (2 << item) - 1;
                e.due(x, "cache(" + client + ")", item < capacity ? set : set & ~((2 << (item - capacity)) - 1));
            }
        }
        for (String policy : new String[] {"lru", "lfu", "pix"}) {
            BroadcastCarousel none = Check.with(SIX + "client 0 " + policy + ";");
            e.due(none, "victim(0, 3)", 3);
            e.due(none, "request(0, 3)", 4);
            e.due(none, "cache(0)", 0);
            e.due(none, "request(0, 3)", 6);
            e.due(none, "clientValue(0, 2)", 2);
        }
    }

    private void atTheTimeOfTheClient() {
        e.part(5, "A request is made at the time of the client.");
        BroadcastCarousel x = Check.with(ALL);
        e.due(x, "think(1, 5)", 5);
        e.due(x, "request(0, 5)", 6);
        e.due(x, "request(1, 5)", 1);
        e.due(x, "request(1, 0)", 1);
        e.due(x, "request(0, 4)", 5);
    }

    private void hits() {
        e.part(5, "If the item is in the cache, that is a hit; no time passes.");
        BroadcastCarousel x = Check.with(ALL);
        e.due(x, "request(0, 2)", 3);
        e.due(x, "request(0, 2)", 0);
        e.due(x, "clientValue(0, 0)", 3);
        e.due(x, "clientValue(0, 1)", 1);
        e.due(x, "clientValue(0, 2)", 1);
        e.due(x, "clientValue(0, 3)", 3);
        e.due(x, "clientValue(0, 4)", 3);
        // In the cache of another client.
        e.due(x, "request(1, 2)", 3);
        // Driven out of the cache by the next one: a miss again.
        e.due(x, "request(0, 3)", 1);
        e.due(x, "request(0, 2)", 5);
    }

    private void misses() {
        e.part(5, "Otherwise it is a miss: the time of the client increases by the access time, and the item comes into the cache; if the cache has more than C items then, one of them is removed, which may be the item that has just come:");
        BroadcastCarousel x = Check.with(SIX + "client 2 lru;client 1 lfu;client 1 pix;");
        e.due(x, "request(0, 1)", 2);
        e.due(x, "clientValue(0, 0)", 2);
        e.due(x, "cache(0)", 2);
        // C items are not more than C.
        e.due(x, "request(0, 0)", 5);
        e.due(x, "cache(0)", 3);
        e.due(x, "request(0, 2)", 2);
        e.due(x, "cache(0)", 5);
        // The one that has just come, requested less often, or with the lower number.
        Calls.make(x, "request(1, 0); request(1, 0)");
        e.due(x, "request(1, 1)", 1);
        e.due(x, "cache(1)", 1);
        Calls.make(x, "request(2, 3)");
        e.due(x, "request(2, 2)", 5);
        e.due(x, "cache(2)", 8);
    }

    private void lru() {
        e.part(5, "lru: the one whose last request by this client is longest ago");
        BroadcastCarousel x = Check.with(ALL);
        Calls.make(x, "request(2, 0); request(2, 1); request(2, 2)");
        e.due(x, "victim(2, 3)", 0);
        Calls.make(x, "request(2, 0)");
        e.due(x, "victim(2, 3)", 1);
        Calls.make(x, "request(2, 1)");
        e.due(x, "victim(2, 3)", 2);
        // What other clients request, and thinking, change no order.
        Calls.make(x, "request(3, 2); request(0, 2); think(2, 99)");
        e.due(x, "victim(2, 3)", 2);
        e.due(x, "request(2, 3)", 4);
        e.due(x, "cache(2)", 11);
        e.due(x, "victim(2, 2)", 0);
    }

    private void lfu() {
        e.part(5, "lfu: the one that was requested least often by this client; of several, the one whose last request is longest ago");
        BroadcastCarousel x = Check.with(SIX + "client 2 lfu;client 4 lfu;");
        Calls.make(x, "request(0, 3); request(0, 1); request(0, 3)");
        e.due(x, "victim(0, 2)", 1);
        // Now 3 and 1 twice each, and the last request of 3 is longer ago: but 2 came once.
        Calls.make(x, "request(0, 1)");
        e.due(x, "victim(0, 2)", 2);
        e.due(x, "request(0, 2)", 1);
        e.due(x, "cache(0)", 10);
        // Twice each.
        e.due(x, "victim(0, 2)", 3);
        e.due(x, "request(0, 2)", 6);
        e.due(x, "cache(0)", 6);
        // Another client's requests do not count.
        Calls.make(x, "request(1, 5); request(1, 5); request(1, 5)");
        e.due(x, "victim(0, 5)", 5);
    }

    private void pix() {
        e.part(5, "pix: the one with the least quotient of popularity and frequency of its disk (compared exactly); of several, the one with the lowest number");
        // 50 / 3, 33 / 2, 99 / 6 and 17 / 1: truncated the first three are 16.
        String text = INDEX + "disk 3;disk 2;disk 6;disk 1;item 50 0 0;item 33 1 0;item 99 2 0;item 17 3 0;";
        BroadcastCarousel x = Check.with(text + "client 2 pix;client 3 pix;client 4 pix;");
        Calls.make(x, "request(0, 0); request(0, 2)");
        e.due(x, "victim(0, 3)", 2);
        e.due(x, "victim(0, 1)", 1);
        Calls.make(x, "request(1, 2); request(1, 1); request(1, 0)");
        e.due(x, "victim(1, 3)", 1);
        Calls.make(x, "setPopularity(2, 98)");
        e.due(x, "victim(1, 3)", 2);
        Calls.make(x, "setPopularity(2, 99); setFrequency(1, 1)");
        e.due(x, "victim(1, 3)", 2);
        Calls.make(x, "setFrequency(1, 2); setPopularity(1, 34); setPopularity(0, 48)");
        e.due(x, "victim(1, 3)", 0);
        Calls.make(x, "setPopularity(3, 0)");
        e.due(x, "victim(1, 3)", 3);
        Calls.make(x, "setPopularity(0, 0)");
        e.due(x, "victim(1, 3)", 0);
        // No room is needed for the fourth one.
        Calls.make(x, "request(2, 0); request(2, 1); request(2, 2)");
        e.due(x, "victim(2, 3)", -2);
    }

    private void allRequests() {
        e.part(5, "All requests of this client since the text was loaded count, hits and misses, the present one included.");
        String text = SIX + "client 1 lfu;client 1 lfu;";
        // Hits count: 0 was requested three times, 1 once.
        BroadcastCarousel x = Check.with(text);
        Calls.make(x, "request(0, 0); request(0, 0); request(0, 0)");
        e.due(x, "victim(0, 1)", 1);
        // The present one counts, and those before the item was driven out: 0 and 1 twice each.
        BroadcastCarousel y = Check.with(text);
        Calls.make(y, "request(0, 0); request(0, 1); request(0, 1)");
        e.due(y, "cache(0)", 2);
        e.due(y, "victim(0, 0)", 1);
        e.due(y, "request(0, 0)", 5);
        e.due(y, "cache(0)", 1);
        // Since the text was loaded: the same again behind another load().
        Check.put(y, text);
        Calls.make(y, "load(); request(0, 0); request(0, 1); request(0, 1)");
        e.due(y, "requests(0, 1)", 2);
        e.due(y, "victim(0, 0)", 1);
        e.due(y, "victim(1, 0)", -2);
    }

    // ---- promises 6, 7 and 40 to 44

    private void requests() {
        e.promise(6, "Returns the access time; 0 for a hit.");
        BroadcastCarousel x = Check.with(ALL);
        e.due(x, "request(3, 0)", 1);
        e.due(x, "request(3, 0)", 0);
        e.due(x, "request(3, 1)", 1);
        e.due(x, "request(3, 1)", 0);
        e.due(x, "request(0, 5)", 6);
        // -3 -4 -5 -6 0: from the second slot of the segment on, up to the next cycle.
        BroadcastCarousel y = Check.with("index 1 4;disk 1;item 1 0 0;client 0 lru;client 1 lru;");
        e.due(y, "request(0, 0)", 5);
        e.due(y, "think(0, 1)", 6);
        e.due(y, "request(0, 0)", 9);
        e.promise(6, "A client requests an item (see 5).");
        e.due(y, "clientValue(0, 2)", 2);
        e.due(y, "clientValue(1, 2)", 0);
    }

    private void thinking() {
        e.promise(7, "Increases the time of a client.");
        BroadcastCarousel x = Check.with(ALL);
        e.due(x, "think(0, 1)", 1);
        e.due(x, "think(0, 9999)", 10000);
        e.due(x, "clientValue(0, 0)", 10000);
        e.due(x, "clientValue(1, 0)", 0);
        e.due(x, "clientValue(0, 3)", 0);
        // Far behind the times that a question may name.
        for (int n = 0; n < 101; n++) {
            Calls.make(x, "think(0, 9999)");
        }
        e.due(x, "clientValue(0, 0)", 10000 + 101 * 9999);
        e.due(x, "request(0, 0)", 6 - (10000 + 101 * 9999) % 6 + 1);
    }

    private void counts() {
        e.promise(40, "Returns 0 to 4.");
        for (int clients = 0; clients <= 4; clients++) {
            e.due(Check.with(SIX + "client 1 lru;".repeat(clients)), "clientCount()", clients);
        }
        e.promise(43, "Returns how often a client has requested an item.");
        BroadcastCarousel x = Check.with(ALL);
        e.due(x, "requests(0, 3)", 0);
        Calls.make(x, "request(0, 3)");
        e.due(x, "requests(0, 3)", 1);
        Calls.make(x, "request(0, 3); request(0, 2); request(0, 3)");
        e.due(x, "requests(0, 3)", 3);
        e.due(x, "requests(0, 2)", 1);
        e.due(x, "requests(1, 3)", 0);
        e.due(x, "undo()", 3);
        e.due(x, "requests(0, 3)", 2);
    }

    private void values() {
        e.promise(41, "`what`: 0: time; 1: hits; 2: misses; 3: sum of all access times; 4: sum of the tuning times of all misses; 5: capacity");
        // -3 -4 0 1 2 3: access 4 and tuning 3; a hit; then the item 0 at the time 5, 4 and 4.
        BroadcastCarousel x = Check.with("index 1 2;disk 1;item 5 0 0;item 5 0 0;item 5 0 0;item 5 0 0;client 0 pix;client 4 lru;");
        int[] first = {0, 0, 0, 0, 0, 4};
        int[] behind = {9, 1, 2, 8, 7, 4};
        for (int what = 0; what < 6; what++) {
            e.due(x, "clientValue(1, " + what + ")", first[what]);
        }
        Calls.make(x, "request(1, 1); request(1, 1); think(1, 1); request(1, 0)");
        for (int what = 0; what < 6; what++) {
            e.due(x, "clientValue(1, " + what + ")", behind[what]);
            e.due(x, "clientValue(0, " + what + ")", 0);
        }
    }

    private void caches() {
        e.promise(42, "Returns the items in the cache of a client.");
        BroadcastCarousel x = Check.with(INDEX + "disk 1;" + "item 5 0 0;".repeat(16) + "client 4 lru;client 0 lru;");
        e.due(x, "cache(0)", 0);
        Calls.make(x, "request(0, 0); request(0, 15); request(0, 7); request(0, 8); request(1, 3)");
        e.due(x, "cache(0)", 1 | 1 << 15 | 1 << 7 | 1 << 8);
        e.due(x, "cache(1)", 0);
    }

    private void victims() {
        e.promise(44, "Returns number of the removed item; -2 if none would be removed.");
        BroadcastCarousel x = Check.with(SIX + "client 2 lru;client 0 lru;");
        e.due(x, "victim(0, 0)", -2);
        Calls.make(x, "request(0, 4)");
        e.due(x, "victim(0, 0)", -2);
        Calls.make(x, "request(0, 5)");
        e.due(x, "victim(0, 0)", 4);
        e.due(x, "victim(0, 4)", -2);
        e.due(x, "victim(0, 5)", -2);
        e.due(x, "victim(1, 0)", 0);
        e.due(x, "victim(1, 5)", 5);
        e.promise(44, "Returns the item that request() would remove from the cache of a client if it requested an item now.");
        e.due(x, "victim(0, 3)", 4);
        Calls.make(x, "request(0, 4)");
        e.due(x, "victim(0, 3)", 5);
        e.due(x, "request(0, 3)", 4);
        e.due(x, "cache(0)", 24);
    }

    // ---- promises 45 to 48

    private void soonest() {
        e.promise(45, "Finds the item of a set for which a client would wait shortest now (0 for an item in its cache).");
        BroadcastCarousel x = Check.with(ALL);
        e.due(x, "soonest(0, 63)", 0);
        e.due(x, "soonest(0, 62)", 1);
        e.due(x, "soonest(0, 32)", 5);
        Calls.make(x, "request(0, 4)");
        // At 5: in the cache is the item 4, on the air the item 5, then 0.
        e.due(x, "soonest(0, 63)", 4);
        e.due(x, "soonest(0, 47)", 5);
        e.due(x, "soonest(0, 15)", 0);
        e.due(x, "soonest(1, 63)", 0);
        // -3 0 1 2: at the slot of 1 the next slot has the item 2, but behind the segment 0 is first.
        BroadcastCarousel y = Check.with("index 1 1;disk 1;item 1 0 0;item 1 0 0;item 1 0 0;client 2 lru;");
        Calls.make(y, "think(0, 2)");
        e.due(y, "soonest(0, 7)", 1);
        e.due(y, "soonest(0, 5)", 0);
        e.promise(45, "Returns number of the item; of several the lowest.");
        // Three in the cache, the lowest of which came last.
        Calls.make(x, "request(2, 5); request(2, 4); request(2, 3)");
        e.due(x, "soonest(2, 63)", 3);
        e.due(x, "soonest(2, 48)", 4);
        e.due(x, "soonest(2, 32)", 5);
        // And the lowest of all.
        Calls.make(x, "request(1, 1); request(1, 0)");
        e.due(x, "soonest(1, 63)", 0);
        e.due(x, "soonest(1, 62)", 1);
    }

    private void hints() {
        e.promise(46, "Returns number of the item; of several the lowest; -2 if the cache is empty.");
        BroadcastCarousel x = Check.with(SIX + "client 3 lru;client 0 lru;");
        e.due(x, "hint(0)", -2);
        e.due(x, "hint(1)", -2);
        Calls.make(x, "request(1, 0)");
        e.due(x, "hint(1)", -2);
        Calls.make(x, "request(0, 2)");
        e.due(x, "hint(0)", 2);
        e.promise(46, "Gives a hint which cached item is cheapest to get again: the item in the cache of a client whose access time, beginning at the time of the client, is least.");
        Calls.make(x, "request(0, 1); request(0, 5)");
        // At the time 12 item 1 is nearest, then at 14 item 2, at 15 item 5, at 18 again item 1.
        e.due(x, "clientValue(0, 0)", 12);
        e.due(x, "hint(0)", 1);
        Calls.make(x, "think(0, 1)");
        e.due(x, "hint(0)", 1);
        Calls.make(x, "think(0, 1)");
        e.due(x, "hint(0)", 2);
        Calls.make(x, "think(0, 1)");
        e.due(x, "hint(0)", 5);
        Calls.make(x, "think(0, 3)");
        e.due(x, "hint(0)", 1);
        // -3 0 1 2: at the slot of 1 the next slot has the item 2, but behind the segment 0 is first.
        BroadcastCarousel z = Check.with("index 1 1;disk 1;item 1 0 0;item 1 0 0;item 1 0 0;client 2 lru;");
        Calls.make(z, "request(0, 0); request(0, 2); think(0, 2)");
        e.due(z, "clientValue(0, 0)", 10);
        e.due(z, "accessTime(0, 10)", 4);
        e.due(z, "accessTime(2, 10)", 6);
        e.due(z, "hint(0)", 0);
        BroadcastCarousel y = Check.with("index 1 1;disk 1;item 1 0 0;item 1 0 0;item 1 0 0;client 2 lru;");
        Calls.make(y, "request(0, 1); request(0, 2); think(0, 1)");
        e.due(y, "hint(0)", 1);
        Calls.make(y, "think(0, 1)");
        e.due(y, "hint(0)", 1);
        Calls.make(y, "think(0, 1)");
        e.due(y, "hint(0)", 2);
    }

    private void plan(BroadcastCarousel x, int client, int set, int time, int... order) {
        e.due(x, "planTime(" + client + ", " + set + ")", time);
        for (int place = 0; place < order.length; place++) {
            e.due(x, "planItem(" + client + ", " + set + ", " + place + ")", order[place]);
        }
        e.due(x, "planItem(" + client + ", " + set + ", " + order.length + ")", -2);
    }

    private void planTimes() {
        e.promise(47, "Finds the order in which a client should request all items of a set, each once, one directly after the other, so that its time afterwards is least.");
        BroadcastCarousel x = Check.with(SIX + "client 0 lru;client 4 lru;client 1 lru;");
        plan(x, 0, 1, 1, 0);
        plan(x, 0, 32, 6, 5);
        plan(x, 0, 31, 5, 0, 1, 2, 3, 4);
        Calls.make(x, "think(0, 3)");
        plan(x, 0, 31, 9, 3, 4, 0, 1, 2);
        plan(x, 0, 62, 9, 3, 4, 5, 1, 2);
        lastOrder();
        // All in the cache: no time passes.
        Calls.make(x, "request(1, 0); request(1, 1); request(1, 2); request(1, 3)");
        plan(x, 1, 15, 4, 0, 1, 2, 3);
        plan(x, 1, 31, 5, 0, 1, 2, 3, 4);
        // One place in the cache: who takes 0 first drives 1 out, which would have been there.
        Calls.make(x, "request(2, 1); think(2, 4)");
        plan(x, 2, 3, 7, 1, 0);
        plan(x, 2, 2, 6, 1);
    }

    private void lastOrder() {
        // 0 2 1 6 5 4 3 6, from the time 4 on: the last one of 120 orders.
        BroadcastCarousel x = Check.with(INDEX + "disk 1;disk 1;disk 1;disk 2;item 1 0 0;item 1 2 0;item 1 1 0;"
                + "item 1 2 0;item 1 1 0;item 1 0 0;item 1 3 0;client 4 lru;");
        Calls.make(x, "think(0, 4)");
        plan(x, 0, 62, 11, 5, 4, 3, 2, 1);
    }

    private void planItems() {
        e.promise(48, "Returns an item of the order found by planTime(); of several orders the one whose sequence of items is lexicographically least.");
        BroadcastCarousel x = Check.with(ALL);
        Calls.make(x, "request(3, 5); request(3, 3); request(3, 4)");
        plan(x, 3, 56, 11, 3, 4, 5);
        plan(x, 3, 57, 13, 0, 3, 4, 5);
        e.promise(48, "Returns number of the item; -2 if there are not so many.");
        Scene scene = Scene.of(ALL, "request(3, 5)");
        for (int count = 1; count <= 5; count++) {
            int set = (1 << count) - 1;
            e.due(scene.make(), "planItem(3, " + set + ", " + (count - 1) + ")", count - 1);
            e.refused(scene, "planItem(3, " + set + ", " + count + ")", "-2");
            e.refused(scene, "planItem(3, " + set + ", MAX)", "-2");
        }
    }
}
