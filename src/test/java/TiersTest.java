/** Promises 13, 14 and 34 to 39: repair and tiers, done and in thought. */
public final class TiersTest {
    private static final Check check = new Check();

    public static void main(String[] args) {
        rankings();
        tiers();
        tiersWithTies();
        tiersByMean();
        manyTiers();
        tiersKeepTheIndex();
        tooFewItems();
        applying();
        repairs();
        repairsInOrder();
        repairsOnTheWay();
        repairsToTheFastest();
        bestDisks();
        check.end();
    }

    private static void rankings() {
        BroadcastCarousel x = Check.with("index 0 1;disk 2;disk 5;disk 2;disk 6;"
                + "item 7 0 0;item 9 0 0;item 7 0 0;item 0 0 0;item 99 0 0;item 9 0 0;");
        int[] items = {4, 1, 5, 0, 2, 3};
        for (int n = 0; n < items.length; n++) {
            int place = n;
            check.due("34: itemRank(" + n + ")", items[n], () -> x.itemRank(place));
        }
        check.noSuch("34: itemRank(6)", () -> x.itemRank(6));
        check.noSuch("34: itemRank(MAX)", () -> x.itemRank(Integer.MAX_VALUE));
        check.outOfRange("34: itemRank(-1)", () -> x.itemRank(-1));
        int[] disks = {3, 1, 0, 2};
        for (int n = 0; n < disks.length; n++) {
            int place = n;
            check.due("35: diskRank(" + n + ")", disks[n], () -> x.diskRank(place));
        }
        check.noSuch("35: diskRank(4)", () -> x.diskRank(4));
        check.outOfRange("35: diskRank(-1)", () -> x.diskRank(-1));
        x.setPopularity(3, 8);
        check.due("34: itemRank(3)", 3, () -> x.itemRank(3));
        x.setFrequency(2, 6);
        check.due("35: diskRank(0)", 2, () -> x.diskRank(0));
    }

    private static void sizes(BroadcastCarousel x, long weight, int... due) {
        int k = due.length;
        for (int n = 0; n < k; n++) {
            int tier = n;
            check.due("36: tierSize(" + k + ", " + n + ")", due[n], () -> x.tierSize(k, tier));
        }
        check.due("37: tierWeight(" + k + ")", weight, () -> x.tierWeight(k));
    }

    private static void tiers() {
        // The fast disk is number 1, the best item number 2.
        BroadcastCarousel x = Check.with("index 0 1;disk 1;disk 2;item 1 0 0;item 4 0 0;item 20 0 0;");
        // All on the disk 1: six slots, gaps of 3: 2 * 6 * 25.
        sizes(x, 300, 3);
        // 0 2 1 2: gaps 4, 4, 2: 10 * 1 + 10 * 4 + 2 * 3 * 20 = 170 of 4 slots, 42.5 a slot;
        // 0 1 2 - 1 2: gaps 6, 3, 3: 21 + 2 * 6 * 24 = 309 of 6 slots, 51.5 a slot.
        sizes(x, 170, 1, 2);
        check.due("36: it changes nothing", 7, () -> x.itemsOf(0));
        check.due("36: it changes nothing", 3, x::cycle);
        x.setPopularity(0, 20);
        x.setPopularity(1, 20);
        // 1 tier in front: (10 + 10 + 6) * 20 = 520 of 4: 130; two: (21 + 12 + 12) * 20 = 900 of 6: 150.
        sizes(x, 520, 1, 2);
    }

    private static void tiersWithTies() {
        BroadcastCarousel x = Check.with("index 0 1;disk 1;disk 2;disk 3;disk 4;"
                + "item 0 0 0;item 0 0 0;item 0 0 0;item 0 0 0;item 0 0 0;item 0 0 0;");
        sizes(x, 0, 1, 1, 1, 3);
        sizes(x, 0, 1, 1, 4);
        sizes(x, 0, 1, 5);
        sizes(x, 0, 6);
        BroadcastCarousel y = Check.with("index 0 1;disk 3;disk 3;item 5 0 0;item 5 0 0;item 5 0 0;item 5 0 0;");
        // Whatever the division, all items come three times at gaps of 4: 4 * 3 * 10 * 5.
        sizes(y, 600, 1, 3);
    }

    private static void tiersByMean() {
        // The weight alone would choose otherwise than the weight by the cycle.
        BroadcastCarousel x = Check.with("index 0 1;disk 3;disk 1;item 9 0 0;item 9 0 0;item 1 0 0;item 1 0 0;");
        // (1, 3): 0 1 0 2 0 3: 3 * 3 * 9 + 21 * 11 = 312 of 6 is 52.
        // (2, 2): three rounds 0 1 x: 0 1 2 0 1 3 0 1 -: 2 * 18 * 9 + 45 * 2 = 414 of 9 is 46.
        sizes(x, 414, 2, 2);
    }

    private static void manyTiers() {
        // Equal frequencies: a division changes the order alone, and the first one is told.
        BroadcastCarousel x = Check.with("index 0 1;disk 2;disk 2;disk 2;disk 2;" + "item 5 0 0;".repeat(7));
        sizes(x, 7 * 2 * 28 * 5, 1, 1, 1, 4);
        // (3, 1, 1) has six rounds of five slots, and gaps of 5: 3 * 6 * 15 * 90 = 24300 of 30, or
        // 810 a slot; the others have 1035, 1080 and 1485.
        BroadcastCarousel y = Check.with("index 0 1;disk 6;disk 2;disk 1;"
                + "item 0 0 0;item 90 0 0;item 90 0 0;item 90 0 0;item 0 0 0;");
        sizes(y, 24300, 3, 1, 1);
        // Here (1, 2, 2) has 810 a slot, too: (6 * 6 + 2 * 3 * 21) * 90 = 14580 of 18.
        y.setFrequency(1, 3);
        y.setFrequency(2, 2);
        sizes(y, 14580, 1, 2, 2);
        BroadcastCarousel z = Check.with("index 0 1;disk 1;disk 2;disk 4;disk 4;"
                + "item 50 0 0;item 50 0 0;item 50 0 0;item 1 0 0;item 1 0 0;item 1 0 0;item 1 0 0;item 1 0 0;");
        // Four rounds of five slots: gaps of 5 for the three wanted, of 10 for two, of 20 for three.
        sizes(z, 3 * 4 * 15 * 50 + 2 * 2 * 55 + 3 * 210, 1, 2, 2, 3);
    }

    private static void tiersKeepTheIndex() {
        BroadcastCarousel x = Check.with("index 1 1;disk 1;disk 2;item 1 0 0;item 9 0 0;");
        // -3 0 1 - 1 (the disk 0 first): item 1 at 2 and 4, item 0 at 1, a cycle of 5.
        // Item 1: at 0 a wait of 3, at 1 of 7, 1, at 3 of 5, 1: 17. Item 0: 2, 1, 5, 4, 3: 15.
        sizes(x, 17 * 9 + 15, 1, 1);
        check.due("37: it changes nothing", 3, x::cycle);
    }

    private static void tooFewItems() {
        BroadcastCarousel x = Check.with("index 0 1;disk 1;disk 2;disk 3;item 1 0 0;item 2 0 0;");
        check.due("36: tierSize(3, 0)", -2, () -> x.tierSize(3, 0));
        check.due("36: tierSize(3, 2)", -2, () -> x.tierSize(3, 2));
        check.outOfRange("36: tierSize(3, 3)", () -> x.tierSize(3, 3));
        check.due("37: tierWeight(3)", -2, () -> x.tierWeight(3));
        check.due("14: applyTiers(3)", -2, () -> x.applyTiers(3));
        check.due("14: that was no action", -2, x::undo);
        check.due("14: applyTiers(2)", 2, () -> x.applyTiers(2));
        check.due("14: that was one", 0, x::undo);
        check.outOfRange("14: applyTiers(4)", () -> x.applyTiers(4));
        check.outOfRange("14: applyTiers(0)", () -> x.applyTiers(0));
    }

    private static void applying() {
        BroadcastCarousel x = Check.with("index 0 1;disk 1;disk 2;item 1 0 0;item 4 0 0;item 20 0 0;");
        check.due("14: applyTiers(2)", 1, () -> x.applyTiers(2));
        check.due("14: itemsOf(1)", 4, () -> x.itemsOf(1));
        check.due("14: cycle()", 4, x::cycle);
        check.due("14: weight(0)", 170, () -> x.weight(0));
        check.due("14: applyTiers(2) again", 0, () -> x.applyTiers(2));
        check.due("14: applyTiers(1)", 2, () -> x.applyTiers(1));
        check.due("14: itemsOf(1)", 7, () -> x.itemsOf(1));
        check.due("14: weight(0)", 300, () -> x.weight(0));
        check.due("14: undo()", 2, x::undo);
        check.due("14: itemsOf(1)", 4, () -> x.itemsOf(1));
    }

    private static void repairs() {
        BroadcastCarousel x = Check.with("index 0 1;disk 1;disk 2;disk 4;disk 2;item 1 0 3;item 1 0 0;item 1 0 0;");
        check.due("13: repair() of nothing", 0, x::repair);
        check.due("13: that was an action", 0, x::undo);
        x.setBound(0, 2);
        check.due("38: afterRepair()", 0, x::afterRepair);
        check.due("38: it changes nothing", 3, x::cycle);
        check.due("13: repair()", 1, x::repair);
        check.due("13: the lowest frequency above, the lowest disk", 1, () -> x.itemValue(0, 1));
        check.due("13: violations()", 0, x::violations);
        check.due("13: cycle()", 4, x::cycle);
        x.undo();
        check.due("13: undo()", 0, () -> x.itemValue(0, 1));
        x.setBound(0, 1);
        check.due("38: afterRepair()", 1, x::afterRepair);
        check.due("13: repair()", 2, x::repair);
        check.due("13: disk", 2, () -> x.itemValue(0, 1));
        check.due("13: violations()", 1, x::violations);
        check.due("13: repair() when none can be moved", 0, x::repair);
        check.due("38: afterRepair()", 1, x::afterRepair);
    }

    private static void repairsInOrder() {
        // Item 0 violates its bound on the fastest disk and cannot be moved: item 1 is.
        BroadcastCarousel x = Check.with("index 0 1;disk 3;disk 1;item 1 0 1;item 1 1 2;item 1 1 2;");
        check.due("13: violations()", 7, x::violations);
        check.due("13: repair()", 2, x::repair);
        check.due("13: itemsOf(0)", 7, () -> x.itemsOf(0));
        check.due("13: violations()", 7, x::violations);
        // 0 1 2 0 3 - behind the first move, 0 1 2 0 1 3 behind the second: 0 has a gap of 3 still.
        BroadcastCarousel y = Check.with("index 0 1;disk 2;disk 1;item 1 1 2;item 1 1 3;item 1 1 0;item 1 1 0;");
        check.due("13: violations()", 3, y::violations);
        check.due("13: repair()", 2, y::repair);
        check.due("13: itemsOf(0)", 3, () -> y.itemsOf(0));
        check.due("13: violations()", 1, y::violations);
    }

    private static void repairsOnTheWay() {
        // Only the first violator is moved at a time; then the program is looked at anew.
        BroadcastCarousel x = Check.with("index 0 1;disk 1;disk 2;item 1 1 0;item 1 1 5;item 1 0 5;item 1 0 5;item 1 0 0;item 1 0 0;");
        // 2 3 0 1 4 5 0 1: the gaps of 2 and 3 are 8, that of 1 is 4.
        check.due("13: violations()", 12, x::violations);
        // 3 4 0 1 2 | 5 - 0 1 2 has gaps of 10 and 5.
        check.due("13: repair()", 2, x::repair);
        check.due("13: itemsOf(1)", 15, () -> x.itemsOf(1));
        check.due("13: violations()", 0, x::violations);
    }

    private static void repairsToTheFastest() {
        BroadcastCarousel x = Check.with("index 0 1;disk 6;disk 5;disk 1;item 1 2 1;item 1 2 0;");
        check.due("13: repair()", 2, x::repair);
        check.due("13: disk", 0, () -> x.itemValue(0, 1));
        check.due("13: violations()", 1, x::violations);
    }

    private static void bestDisks() {
        BroadcastCarousel all = Check.with("index 0 1;disk 1;disk 2;" + "item 1 0 1;".repeat(16));
        check.due("39: all violate their bounds", 0, () -> all.bestDisk(3));
        all.moveItem(3, 1);
        check.due("39: all violate their bounds", 0, () -> all.bestDisk(3));
        // Rounds of nine slots with item 3 in each: it alone keeps its bound.
        all.setBound(3, 9);
        check.due("39: all but one violate their bounds", 1, () -> all.bestDisk(3));
        BroadcastCarousel x = Check.with("index 0 1;disk 1;disk 2;disk 4;disk 2;item 1 0 2;item 1 0 0;item 1 0 0;");
        check.due("39: bestDisk(0)", 1, () -> x.bestDisk(0));
        check.due("39: it changes nothing", 0, () -> x.itemValue(0, 1));
        check.due("39: it changes nothing", 3, x::cycle);
        x.setBound(0, 0);
        check.due("39: of several the lowest", 0, () -> x.bestDisk(0));
        x.moveItem(0, 2);
        check.due("39: of several the lowest", 0, () -> x.bestDisk(0));
        // Item 1 stays where it is, or item 0 recurs too seldom.
        BroadcastCarousel y = Check.with("index 0 1;disk 2;disk 1;item 1 0 1;item 1 1 0;");
        // 0 1 0 -: 0 violates with 2; alone with it on one disk: 0 1 0 1.
        check.due("39: bestDisk(1)", 0, () -> y.bestDisk(1));
        y.setBound(0, 2);
        check.due("39: bestDisk(1)", 0, () -> y.bestDisk(1));
        // 0 2 1 0 - 1 against 0 2 0 1: with 0 and 1 on the fast disk, the gap of 0 is 3.
        BroadcastCarousel z = Check.with("index 0 1;disk 2;disk 1;item 1 0 2;item 1 0 0;item 1 1 0;");
        check.due("39: violations()", 1, z::violations);
        check.due("39: bestDisk(1)", 1, () -> z.bestDisk(1));
        check.due("39: bestDisk(0)", 0, () -> z.bestDisk(0));
    }
}
