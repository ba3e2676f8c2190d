/** The edges of parts 6 and 7 and of promises 13, 14 and 34 to 39: repair and tiers. */
final class TierEdges {
    private static final String INDEX = "index 0 1;";
    private static final String CLIMB = INDEX + "disk 1;disk 2;disk 3;disk 6;" + "item 1 0 1;".repeat(16);

    private final Edges e;

    TierEdges(Edges edges) {
        e = edges;
    }

    void look() {
        mostMoves();
        lowestFirst();
        fasterDisks();
        nearestDisk();
        repairEnds();
        repairIsOneAction();
        itemRanking();
        diskRanking();
        divisions();
        bestDivision();
        lastDivision();
        greatProducts();
        exactly();
        lexicographically();
        applying();
        tooFewItems();
        afterRepair();
        bestDisks();
    }

    // ---- part 6

    private void mostMoves() {
        e.part(6, "A repair is a sequence of at most 60 moves.");
        // The most that there can be are 48: sixteen items, each of them three times.
        BroadcastCarousel x = Check.with(CLIMB);
        e.due(x, "repair()", 48);
        e.due(x, "itemsOf(3)", 65535);
        e.due(x, "violations()", 65535);
        e.due(x, "repair()", 0);
    }

    private void lowestFirst() {
        e.part(6, "For each move, the items that violate their bounds and that can be moved are considered; the one with the lowest number is moved, and the program changes.");
        // 0 and 1 on disks of their own have gaps of 12 and 10; together on one disk, of 2.
        BroadcastCarousel x = Check.with(INDEX + "disk 5;disk 6;item 1 0 1;item 1 1 2;");
        e.due(x, "gap(0)", 12);
        e.due(x, "gap(1)", 10);
        e.due(x, "violations()", 3);
        e.due(x, "repair()", 1);
        e.due(x, "itemsOf(1)", 3);
        e.due(x, "violations()", 1);
        // The lowest number that can be moved, which is not the lowest that violates its bound.
        BroadcastCarousel y = Check.with(INDEX + "disk 6;disk 5;item 1 0 1;item 1 1 1;");
        e.due(y, "repair()", 1);
        e.due(y, "itemsOf(0)", 3);
        // 0 1 2 0 3 - when 0 has moved: 1 and 2 have gaps of 6, then 3 keeps 1 where 1 goes next.
        BroadcastCarousel z = Check.with(INDEX + "disk 2;disk 1;item 1 1 3;item 1 1 3;item 1 1 0;item 1 1 0;");
        e.due(z, "repair()", 2);
        e.due(z, "itemsOf(0)", 3);
        e.due(z, "violations()", 0);
        // 0 1 - 0 - -: when 0 has moved, 1 has a gap of 6, which it had not before.
        BroadcastCarousel last = Check.with(INDEX + "disk 2;disk 1;item 1 1 2;item 1 1 3;item 1 1 0;");
        e.due(last, "violations()", 1);
        e.due(last, "repair()", 2);
        e.due(last, "itemsOf(0)", 3);
    }

    private void fasterDisks() {
        e.part(6, "An item can be moved if there is a disk (used or not) with a higher frequency than its own one; it is moved to the one with the lowest of these frequencies, of several the one with the lowest number.");
        e.due(Check.with(INDEX + "disk 2;item 1 0 1;item 1 0 0;"), "repair()", 0);
        e.due(Check.with(INDEX + "disk 2;disk 2;item 1 0 1;item 1 0 0;"), "repair()", 0);
        e.due(Check.with(INDEX + "disk 2;disk 1;item 1 0 1;item 1 0 0;"), "repair()", 0);
        e.due(Check.with(INDEX + "disk 2;disk 3;item 1 0 1;item 1 0 0;"), "repair()", 1);
        e.due(Check.with(INDEX + "disk 2;disk 3;item 1 0 1;item 1 1 0;"), "repair()", 1);
    }

    private void nearestDisk() {
        e.part(6, "it is moved to the one with the lowest of these frequencies, of several the one with the lowest number");
        String disks = INDEX + "disk 1;disk 6;disk 3;disk 3;";
        // One move is enough for a bound of 2, two are not for a bound of 1.
        BroadcastCarousel x = Check.with(disks + "item 1 0 2;item 1 0 0;item 1 0 0;");
        e.due(x, "repair()", 1);
        e.due(x, "itemValue(0, 1)", 2);
        BroadcastCarousel y = Check.with(disks + "item 1 0 1;item 1 0 0;item 1 0 0;");
        e.due(y, "repair()", 2);
        e.due(y, "itemValue(0, 1)", 1);
        BroadcastCarousel z = Check.with(INDEX + "disk 4;disk 2;disk 2;disk 1;item 1 3 2;item 1 3 0;item 1 3 0;");
        e.due(z, "repair()", 1);
        e.due(z, "itemValue(0, 1)", 1);
    }

    private void repairEnds() {
        e.part(6, "The repair ends when there is no such item.");
        e.due(Check.with(INDEX + "disk 1;disk 2;item 1 0 0;item 1 0 0;"), "repair()", 0);
        e.due(Check.with(INDEX + "disk 1;disk 2;item 1 0 2;item 1 0 2;"), "repair()", 0);
        e.due(Check.with(INDEX + "disk 1;disk 2;item 1 0 1;item 1 0 2;"), "repair()", 2);
    }

    private void repairIsOneAction() {
        e.promise(13, "This is one action, also if no item is moved.");
        BroadcastCarousel x = Check.with(INDEX + "disk 1;item 1 0 0;");
        e.due(x, "repair()", 0);
        e.due(x, "undo()", 0);
        e.due(x, "undo()", -2);
        e.promise(13, "Performs a repair (see 6).");
        BroadcastCarousel y = Check.with(CLIMB);
        e.due(y, "repair()", 48);
        e.due(y, "undo()", 0);
        e.due(y, "itemsOf(0)", 65535);
    }

    // ---- part 7

    private void itemRanking() {
        e.part(7, "The ranking of the items is by descending popularity, items with the same popularity by ascending number.");
        BroadcastCarousel x = Check.with(INDEX + "disk 1;item 7 0 0;item 9 0 0;item 7 0 0;item 0 0 0;item 99 0 0;item 9 0 0;");
        int[] due = {4, 1, 5, 0, 2, 3};
        for (int place = 0; place < 6; place++) {
            e.due(x, "itemRank(" + place + ")", due[place]);
        }
        BroadcastCarousel same = Check.with(INDEX + "disk 1;" + "item 5 0 0;".repeat(16));
        for (int place = 0; place < 16; place++) {
            e.due(same, "itemRank(" + place + ")", place);
        }
        e.promise(34, "`place`: 0 for the first one");
        e.due(x, "itemRank(0)", 4);
        e.due(x, "itemRank(5)", 3);
        e.due(Check.with(INDEX + "disk 1;item 0 0 0;"), "itemRank(0)", 0);
    }

    private void diskRanking() {
        e.part(7, "The ranking of the disks is by descending frequency, disks with the same frequency by ascending number.");
        BroadcastCarousel x = Check.with(INDEX + "disk 2;disk 5;disk 2;disk 6;item 1 0 0;");
        int[] due = {3, 1, 0, 2};
        for (int place = 0; place < 4; place++) {
            e.due(x, "diskRank(" + place + ")", due[place]);
        }
        BroadcastCarousel same = Check.with(INDEX + "disk 2;disk 2;disk 2;disk 2;item 1 0 0;");
        for (int place = 0; place < 4; place++) {
            e.due(same, "diskRank(" + place + ")", place);
        }
        e.promise(35, "`place`: 0 for the first one");
        e.due(x, "diskRank(0)", 3);
        e.due(Check.with(INDEX + "disk 1;item 0 0 0;"), "diskRank(0)", 0);
    }

    private void sizes(BroadcastCarousel x, long weight, int... due) {
        for (int tier = 0; tier < due.length; tier++) {
            e.due(x, "tierSize(" + due.length + ", " + tier + ")", due[tier]);
        }
        e.due(x, "tierWeight(" + due.length + ")", weight);
    }

    private void divisions() {
        e.part(7, "A division into k tiers assigns the first items of the ranking to the first disk of its ranking, the next ones to the second disk, and so on, to k disks, to each at least one.");
        // As many items as tiers; the disks by frequency are 2, 0, 1, the items 1, 2, 0.
        BroadcastCarousel x = Check.with(INDEX + "disk 2;disk 1;disk 4;item 1 0 0;item 3 0 0;item 2 0 0;");
        e.due(x, "applyTiers(3)", 2);
        e.due(x, "itemsOf(2)", 2);
        e.due(x, "itemsOf(0)", 4);
        e.due(x, "itemsOf(1)", 1);
        // All to the fastest disk, and none to those behind the second one.
        e.due(x, "applyTiers(1)", 2);
        e.due(x, "itemsOf(2)", 7);
        e.due(x, "applyTiers(2)", 2);
        e.due(x, "itemsOf(1)", 0);
        sizes(Check.with(INDEX + "disk 2;" + "item 5 0 0;".repeat(16)), 16 * 2 * 136 * 5, 16);
        sizes(Check.with(INDEX + "disk 1;disk 1;disk 1;disk 1;item 1 0 0;item 1 0 0;item 1 0 0;item 1 0 0;"), 40, 1, 1, 1, 1);
        e.promise(36, "Returns the number of items of a tier of the best division.");
        sizes(Check.with(INDEX + "disk 1;item 1 0 0;"), 1, 1);
    }

    private void bestDivision() {
        e.part(7, "the weight of the program with factor 0, divided by the cycle, is least (compared exactly)");
        // (1, 3) is 0 1 0 2 0 3: 9 * 9 + 21 * 11 = 312 of 6 slots, or 52; (2, 2) is 0 1 2 0 1 3 0 1 -:
        // 18 * 18 + 45 * 2 = 414 of 9 slots, or 46. The greater weight is the better one.
        sizes(Check.with(INDEX + "disk 3;disk 1;item 9 0 0;item 9 0 0;item 1 0 0;item 1 0 0;"), 414, 2, 2);
        // (3, 1, 1), behind all that begin with 1 and 2: six rounds of five slots with gaps of 5,
        // 3 * 6 * 15 * 90 = 24300 of 30 slots, or 810; the others have 1035, 1080 and 1485.
        sizes(Check.with(INDEX + "disk 6;disk 2;disk 1;item 0 0 0;item 90 0 0;item 90 0 0;item 90 0 0;item 0 0 0;"),
                24300, 3, 1, 1);
        // Four rounds of five slots: gaps of 5 for the three wanted, of 10 for two, of 20 for three.
        sizes(Check.with(INDEX + "disk 1;disk 2;disk 4;disk 4;item 50 0 0;item 50 0 0;item 50 0 0;"
                + "item 1 0 0;".repeat(5)), 3 * 4 * 15 * 50 + 2 * 2 * 55 + 3 * 210, 1, 2, 2, 3);
        e.promise(37, "Returns the weight of the program with factor 0 by the best division.");
        BroadcastCarousel x = Check.with(INDEX + "disk 3;disk 1;item 9 0 0;item 9 0 0;item 1 0 0;item 1 0 0;");
        e.due(x, "tierWeight(2)", 414);
        e.due(x, "applyTiers(2)", 2);
        e.due(x, "weight(0)", 414);
        e.due(x, "cycle()", 9);
    }

    private void lastDivision() {
        e.part(7, "to k disks, to each at least one.");
        // Six rounds of sixteen slots, with thirteen items in each: the last one of 455 divisions.
        String items = "item 99 0 0;".repeat(13) + "item 0 0 0;".repeat(3);
        BroadcastCarousel x = Check.with(INDEX + "disk 6;disk 1;disk 1;disk 1;" + items);
        sizes(x, 13 * 6 * 136 * 99, 13, 1, 1, 1);
        e.due(x, "applyTiers(4)", 3);
        e.due(x, "itemsOf(3)", 32768);
    }

    private void greatProducts() {
        e.part(1, "products are computed without overflow");
        // The weights are some 70 million, the cycles some 300 slots.
        for (String disks : new String[] {"3 4 5 6", "6 5 4 1", "2 3 5 4"}) {
            String text = INDEX;
            for (String frequency : disks.split(" ")) {
                text += "disk " + frequency + ";";
            }
            for (int item = 0; item < 16; item++) {
                text += "item " + (99 - item % 5) + " 0 0;";
            }
            for (int k = 2; k <= 4; k++) {
                int[] best = bestByWeights(text, k);
                for (int tier = 0; tier < k; tier++) {
                    e.due(Check.with(text), "tierSize(" + k + ", " + tier + ")", best[tier]);
                }
            }
        }
    }

    /** Tries all divisions by moving the items, and compares by numbers without an end. */
    private static int[] bestByWeights(String text, int k) {
        BroadcastCarousel x = Check.with(text);
        int[] best = new int[k];
        java.math.BigInteger leastWeight = null;
        java.math.BigInteger leastCycle = null;
        for (int code = 0; code < 1 << 15; code++) {
            // A bit stands for the beginning of the next tier.
            if (Integer.bitCount(code) == k - 1) {
                int[] sizes = new int[k];
                int tier = 0;
                for (int place = 0; place < 16; place++) {
                    tier += place > 0 ? code >> (15 - place) & 1 : 0;
                    sizes[tier]++;
                    x.moveItem(x.itemRank(place), x.diskRank(tier));
                }
                java.math.BigInteger weight = java.math.BigInteger.valueOf(x.weight(0));
                java.math.BigInteger cycle = java.math.BigInteger.valueOf(x.cycle());
                int order = leastWeight == null ? -1
                        : weight.multiply(leastCycle).compareTo(leastWeight.multiply(cycle));
                if (order < 0 || order == 0 && java.util.Arrays.compare(sizes, best) < 0) {
                    best = sizes;
                    leastWeight = weight;
                    leastCycle = cycle;
                }
            }
        }
        return best;
    }

    private void exactly() {
        e.part(7, "(compared exactly)");
        // (1, 2) is 0 1 0 2 0 -: 9 * 2 + 21 = 39 of 6 slots, or 6.5; (2, 1) is 0 1 2 0 1 - 0 1 -:
        // 18 * 3 = 54 of 9 slots, or 6.
        sizes(Check.with(INDEX + "disk 3;disk 1;item 2 0 0;item 1 0 0;item 0 0 0;"), 54, 2, 1);
        // 171 / 6 = 28.5 and 252 / 9 = 28.
        sizes(Check.with(INDEX + "disk 3;disk 1;item 5 0 0;item 4 0 0;item 2 0 0;"), 252, 2, 1);
    }

    private void lexicographically() {
        e.part(7, "of several the one whose sequence of numbers of items is lexicographically least.");
        String none = INDEX + "disk 1;disk 2;disk 3;disk 4;" + "item 0 0 0;".repeat(16);
        sizes(Check.with(none), 0, 16);
        sizes(Check.with(none), 0, 1, 15);
        sizes(Check.with(none), 0, 1, 1, 14);
        sizes(Check.with(none), 0, 1, 1, 1, 13);
        // With equal frequencies all divisions are the same: four items at gaps of 4.
        sizes(Check.with(INDEX + "disk 3;disk 3;item 5 0 0;item 5 0 0;item 5 0 0;item 5 0 0;"), 600, 1, 3);
        // Two divisions of 810 a slot, (1, 2, 2) and (3, 1, 1), are better than the others.
        sizes(Check.with(INDEX + "disk 6;disk 3;disk 2;item 0 0 0;item 90 0 0;item 90 0 0;item 90 0 0;item 0 0 0;"),
                14580, 1, 2, 2);
    }

    // ---- promises 14 and 36 to 39

    private void applying() {
        e.promise(14, "Moves all items according to the best division into k tiers (see 7).");
        BroadcastCarousel x = Check.with(INDEX + "disk 1;disk 2;" + "item 5 0 0;".repeat(16));
        e.due(x, "applyTiers(1)", 16);
        e.due(x, "itemsOf(1)", 65535);
        e.promise(14, "Returns how many items are on another disk then; -2 if there are fewer than k items.");
        e.due(x, "applyTiers(1)", 0);
        e.due(x, "undo()", 1);
        e.due(x, "undo()", 0);
        e.due(x, "itemsOf(0)", 65535);
        e.due(x, "moveItem(15, 1)", 0);
        e.due(x, "applyTiers(1)", 15);
    }

    private void tooFewItems() {
        for (int k = 2; k <= 4; k++) {
            String disks = INDEX + "disk 1;disk 2;disk 3;disk 4;";
            Scene few = new Scene(disks + "item 1 3 7;".repeat(k - 1) + "client 1 lru;", "request(0, 0)", "x", "index");
            BroadcastCarousel enough = Check.with(disks + "item 1 3 7;".repeat(k));
            e.promise(14, "-2 if there are fewer than k items.");
            e.refused(few, "applyTiers(" + k + ")", "-2");
            e.promise(36, "Returns the number; -2 if there are fewer than k items.");
            for (int tier = 0; tier < k; tier++) {
                e.refused(few, "tierSize(" + k + ", " + tier + ")", "-2");
                e.due(enough, "tierSize(" + k + ", " + tier + ")", 1);
            }
            e.promise(37, "Returns the weight; -2 if there are fewer than k items.");
            e.refused(few, "tierWeight(" + k + ")", "-2");
            e.answers(enough, "tierWeight(" + k + ")");
            e.equal("tierWeight() of enough items", 1, Long.signum(enough.tierWeight(k)));
            // The first item stays on the fastest disk, the others leave it.
            e.due(enough, "applyTiers(" + k + ")", k - 1);
        }
    }

    private void afterRepair() {
        e.promise(38, "Returns the items that would still violate their bounds after a repair.");
        e.due(Check.with(CLIMB), "afterRepair()", 65535);
        e.due(Check.with(INDEX + "disk 1;disk 2;item 1 0 0;item 1 0 0;"), "afterRepair()", 0);
        BroadcastCarousel x = Check.with(INDEX + "disk 1;disk 2;disk 4;item 1 0 2;item 1 0 0;item 1 0 0;");
        e.due(x, "violations()", 1);
        e.due(x, "afterRepair()", 0);
        e.due(x, "violations()", 1);
        Calls.make(x, "setBound(0, 1)");
        e.due(x, "afterRepair()", 1);
        // Those that a repair makes violate their bounds are told, too: 0 1 0 2 has a gap of 4.
        BroadcastCarousel y = Check.with(INDEX + "disk 1;disk 2;item 1 0 2;item 1 0 3;item 1 0 3;");
        e.due(y, "violations()", 1);
        e.due(y, "afterRepair()", 1);
        e.due(y, "repair()", 3);
    }

    private void bestDisks() {
        e.promise(39, "Finds the disk to which an item could be moved (its own one included) so that the fewest items violate their bounds.");
        // 1 0 2 0 keeps a bound of 2, 0 1 2 does not.
        BroadcastCarousel x = Check.with(INDEX + "disk 1;disk 2;item 1 1 2;item 1 0 0;item 1 0 0;");
        e.due(x, "bestDisk(0)", 1);
        Calls.make(x, "moveItem(0, 0)");
        e.due(x, "bestDisk(0)", 1);
        e.due(Check.with(INDEX + "disk 1;item 1 0 1;item 1 0 1;"), "bestDisk(1)", 0);
        e.due(Check.with(INDEX + "disk 1;disk 2;disk 3;disk 4;item 1 0 0;item 1 0 0;item 1 3 2;"), "bestDisk(2)", 1);
        // Sixteen violate their bounds if 3 stays, fifteen if it recurs in every round of nine slots.
        BroadcastCarousel all = Check.with(INDEX + "disk 1;disk 2;" + "item 1 0 1;".repeat(3) + "item 1 0 9;"
                + "item 1 0 1;".repeat(12));
        e.due(all, "violations()", 65535);
        e.due(all, "bestDisk(3)", 1);
        // The fewest items, not the fewest bounds of the one that is moved.
        BroadcastCarousel y = Check.with(INDEX + "disk 2;disk 1;item 1 0 2;item 1 0 0;item 1 1 0;");
        e.due(y, "bestDisk(1)", 1);
        e.promise(39, "Returns number of the disk; of several the lowest.");
        e.due(Check.with(INDEX + "disk 1;disk 2;disk 3;disk 4;item 1 3 0;item 1 3 0;"), "bestDisk(0)", 0);
        e.due(Check.with(INDEX + "disk 1;disk 2;" + "item 1 1 1;".repeat(16)), "bestDisk(15)", 0);
        // On the disks 1, 2 and 3 the bound is kept.
        e.due(Check.with(INDEX + "disk 1;disk 2;disk 3;disk 2;item 1 3 2;item 1 0 0;item 1 0 0;"), "bestDisk(0)", 1);
    }
}
