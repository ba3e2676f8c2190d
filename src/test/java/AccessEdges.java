/** The edges of part 4 and of promises 26 to 33: access, weights, worst and best. */
final class AccessEdges {
    private static final String INDEX = "index 0 1;";

    private final Edges e;

    AccessEdges(Edges edges) {
        e = edges;
    }

    void look() {
        withoutSegments();
        atTheItem();
        atASegment();
        behindASegment();
        segmentsInARow();
        tuning();
        weights();
        worstAccess();
        means();
        bestSegments();
        worstTimes();
        leastWorth();
    }

    private void waits(BroadcastCarousel x, int item, int time, int access, int tuning) {
        e.due(x, "accessTime(" + item + ", " + time + ")", access);
        e.due(x, "tuningTime(" + item + ", " + time + ")", tuning);
    }

    private void withoutSegments() {
        e.part(4, "Without index segments they listen from the slot at t up to the first slot with the item, that one included.");
        BroadcastCarousel x = Check.with("index 0 4;disk 1;item 1 0 0;item 1 0 0;item 1 0 0;");
        waits(x, 0, 0, 1, 1);
        waits(x, 0, 1, 3, 3);
        waits(x, 0, 2, 2, 2);
        waits(x, 0, 3, 1, 1);
        waits(x, 2, 0, 3, 3);
        waits(x, 2, 2, 1, 1);
        waits(x, 0, 999999, 1, 1);
        waits(x, 2, 999999, 3, 3);
        waits(Check.with(INDEX + "disk 1;item 1 0 0;"), 0, 999999, 1, 1);
    }

    // The slots are -3 -4 0 1.
    private static BroadcastCarousel four() {
        return Check.with("index 1 2;disk 1;item 1 0 0;item 1 0 0;");
    }

    private void atTheItem() {
        e.part(4, "With index segments: they listen to the slot at t; if it has the item, that is all.");
        waits(four(), 0, 2, 1, 1);
        waits(four(), 1, 3, 1, 1);
        waits(four(), 0, 6, 1, 1);
        waits(four(), 1, 999999, 1, 1);
        e.part(4, "Somebody who begins to wait for an item at the time t listens as follows.");
        waits(four(), 0, 0, 3, 3);
        waits(four(), 0, 4, 3, 3);
    }

    private void atASegment() {
        e.part(4, "Otherwise, if it is the first slot of a segment, they listen to the rest of this segment; if it is not, they do not listen up to the next first slot of a segment, and listen to that segment.");
        waits(four(), 0, 0, 3, 3);
        waits(four(), 1, 0, 4, 3);
        waits(four(), 0, 1, 6, 4);
        waits(four(), 1, 1, 7, 4);
        // The item 1 comes next, but who has not heard a segment does not know that.
        waits(four(), 1, 2, 6, 4);
        waits(four(), 0, 3, 4, 4);
        waits(four(), 0, 999998, 1, 1);
        waits(four(), 1, 999998, 6, 4);
        // The segment behind the last slot is the first one of the next cycle.
        BroadcastCarousel x = Check.with("index 2 1;disk 1;item 1 0 0;item 1 0 0;");
        waits(x, 0, 3, 3, 3);
        waits(x, 1, 1, 3, 3);
        waits(x, 0, 2, 4, 2);
    }

    private void behindASegment() {
        e.part(4, "Then they do not listen up to the first slot with the item behind the segment they have listened to, and listen to that slot.");
        // -3 0 1 2: the item 0 is right behind the segment, 2 the last of the cycle.
        BroadcastCarousel x = Check.with("index 1 1;disk 1;item 1 0 0;item 1 0 0;item 1 0 0;");
        waits(x, 0, 0, 2, 2);
        waits(x, 2, 0, 4, 2);
        waits(x, 2, 1, 7, 3);
        waits(x, 0, 3, 3, 3);
        // -3 0 1 -3 2 -: behind the second segment comes the next cycle, with another segment.
        BroadcastCarousel y = Check.with("index 2 1;disk 1;item 1 0 0;item 1 0 0;item 1 0 0;item 1 0 0;");
        waits(y, 0, 3, 5, 2);
        waits(y, 0, 2, 6, 3);
        waits(y, 1, 3, 6, 2);
        waits(y, 3, 4, 8, 3);
    }

    private void segmentsInARow() {
        e.part(4, "up to the first slot with the item behind the segment they have listened to");
        // -3 -4 -3 -4 0: the second segment of the row is not listened to by who heard the first.
        BroadcastCarousel x = Check.with("index 2 2;disk 1;item 1 0 0;");
        waits(x, 0, 0, 5, 3);
        waits(x, 0, 1, 4, 4);
        waits(x, 0, 2, 3, 3);
        waits(x, 0, 3, 7, 4);
        waits(x, 0, 4, 1, 1);
        BroadcastCarousel y = Check.with("index 8 1;disk 1;item 1 0 0;");
        for (int time = 0; time < 8; time++) {
            waits(y, 0, time, 9 - time, 2);
        }
        waits(y, 0, 8, 1, 1);
    }

    private void tuning() {
        e.part(4, "The access time is the number of slots from the one at t up to the one with the item, both included; the tuning time is the number of slots to which they listen.");
        for (int length = 1; length <= 4; length++) {
            BroadcastCarousel x = Check.with("index 1 " + length + ";disk 1;item 1 0 0;item 1 0 0;");
            waits(x, 0, 0, length + 1, length + 1);
            waits(x, 1, 0, length + 2, length + 1);
            for (int time = 1; time < length; time++) {
                waits(x, 0, time, 2 * length + 3 - time, length + 2);
            }
            waits(x, 0, length, 1, 1);
            waits(x, 1, length, length + 4, length + 2);
            waits(x, 0, length + 1, length + 2, length + 2);
        }
        e.promise(26, "Returns the access time.");
        e.due(four(), "accessTime(0, 1)", 6);
        e.promise(27, "Returns the tuning time.");
        e.due(four(), "tuningTime(0, 1)", 4);
    }

    // The slots are -3 0 1: access 2, 1, 3 and 3, 5, 1; tuning 2, 1, 3 and 2, 3, 1.
    private static BroadcastCarousel three() {
        return Check.with("index 1 1;disk 1;item 2 0 0;item 3 0 0;");
    }

    private void weights() {
        e.part(4, "The weight of the program with a factor c is the sum, over all items and all times t from 0 to the cycle minus 1, of popularity * (access time + c * tuning time).");
        BroadcastCarousel two = Check.with(INDEX + "disk 1;item 2 0 0;item 3 0 0;");
        e.due(two, "weight(0)", 15);
        e.due(two, "weight(1)", 30);
        e.due(two, "weight(99)", 1500);
        e.due(three(), "weight(0)", 2 * 6 + 3 * 9);
        e.due(three(), "weight(1)", 39 + 30);
        e.due(three(), "weight(99)", 39 + 99 * 30);
        e.promise(29, "Returns the weight of the program (see 4).");
        e.due(Check.with(INDEX + "disk 1;item 0 0 0;"), "weight(99)", 0);
        e.due(Check.with(INDEX + "disk 1;item 1 0 0;"), "weight(0)", 1);
        e.due(Check.with(INDEX + "disk 1;item 99 0 0;"), "weight(99)", 9900);
    }

    private void worstAccess() {
        e.promise(28, "Returns the greatest access time of an item, over all times.");
        e.due(Check.with(INDEX + "disk 1;item 1 0 0;"), "worstAccess(0)", 1);
        e.due(Check.with(INDEX + "disk 6;item 1 0 0;"), "worstAccess(0)", 1);
        // At the time 0 for the last item, at the last time for the one before it.
        BroadcastCarousel x = Check.with(INDEX + "disk 1;item 1 0 0;item 1 0 0;item 1 0 0;");
        e.due(x, "worstAccess(0)", 3);
        e.due(x, "worstAccess(1)", 3);
        e.due(x, "worstAccess(2)", 3);
        e.due(three(), "worstAccess(0)", 3);
        e.due(three(), "worstAccess(1)", 5);
        // -3 -4 0 1, from the second slot of the segment on: 6 and 7.
        e.due(four(), "worstAccess(0)", 6);
        e.due(four(), "worstAccess(1)", 7);
    }

    private void means() {
        e.promise(30, "Returns the mean access time of an item: the sum of its access times over all times t from 0 to the cycle minus 1, divided by the cycle, both converted to double.");
        e.due(Check.with(INDEX + "disk 6;item 1 0 0;"), "meanAccess(0)", 1.0);
        e.due(Check.with(INDEX + "disk 1;item 1 0 0;item 1 0 0;"), "meanAccess(1)", 1.5);
        e.due(three(), "meanAccess(0)", 2.0);
        e.due(three(), "meanAccess(1)", 3.0);
        // -3 -3 0: 3, 2 and 1; -3 -3 -3 0: 4, 3, 2 and 1.
        e.due(Check.with("index 2 1;disk 1;item 1 0 0;"), "meanAccess(0)", 2.0);
        e.due(Check.with("index 3 1;disk 1;item 1 0 0;"), "meanAccess(0)", 10 / 4.0);
        // -3 -4 -5 0 0: 4; 8 and 7, up to the next cycle; 1 and 1.
        e.due(Check.with("index 1 3;disk 2;item 1 0 0;"), "meanAccess(0)", 21 / 5.0);
    }

    private void bestSegments() {
        e.promise(31, "Finds the number of index segments (0 to 8), of the present length, with which the weight with a factor, divided by the cycle, is least (compared exactly).");
        BroadcastCarousel x = Check.with("index 8 1;disk 1;" + "item 5 0 0;".repeat(16));
        e.due(x, "bestSegments(0)", 0);
        e.due(x, "bestSegments(99)", 8);
        // The number that is set does not matter, the length does.
        Calls.make(x, "setIndex(0, 1)");
        e.due(x, "bestSegments(99)", 8);
        bestByLength();
        e.promise(31, "(compared exactly)");
        // -3 0 -3 1 -3 2 -3 3: access times of 36 and tuning times of 18 for each of the four items,
        // so 4 * (36 + 9 * 18) = 792 of 8 slots, or 99; with three segments 695 of 7, or 99.3.
        e.due(Check.with("index 0 1;disk 1;item 1 0 0;item 1 0 0;item 1 0 0;item 1 0 0;"), "bestSegments(9)", 4);
        e.promise(31, "Returns the number; of several the least.");
        e.due(Check.with("index 5 4;disk 1;item 0 0 0;item 0 0 0;"), "bestSegments(0)", 0);
        e.due(Check.with("index 5 4;disk 1;item 0 0 0;item 0 0 0;"), "bestSegments(99)", 0);
        // None: 4 * 9 * 10 = 360 of 4 slots, or 90; four: 4 * (36 + 8 * 18) = 720 of 8, or 90.
        e.due(Check.with("index 4 1;disk 1;item 1 0 0;item 1 0 0;item 1 0 0;item 1 0 0;"), "bestSegments(8)", 0);
        // 1080 of 15 slots and 1152 of 16 are both 72.
        BroadcastCarousel y = Check.with("index 6 1;disk 2;" + "item 1 0 0;".repeat(5));
        e.due(y, "weight(4)", 1152);
        e.due(y, "cycle()", 16);
        e.due(y, "bestSegments(4)", 5);
        Calls.make(y, "setIndex(5, 1)");
        e.due(y, "weight(4)", 1080);
        e.due(y, "cycle()", 15);
    }

    private void bestByLength() {
        String[] texts = {
            "disk 1;" + "item 5 0 0;".repeat(16),
            "disk 1;" + "item 5 0 0;".repeat(9),
            "disk 3;disk 1;item 90 0 0;" + "item 5 1 0;".repeat(12),
            "disk 4;disk 5;disk 6;disk 1;item 99 0 0;item 99 1 0;item 99 2 0;" + "item 99 3 0;".repeat(13),
        };
        for (String text : texts) {
            for (int length = 1; length <= 4; length++) {
                for (int factor : new int[] {0, 1, 2, 5, 99}) {
                    BroadcastCarousel y = Check.with("index 3 " + length + ";" + text);
                    e.due(y, "bestSegments(" + factor + ")", bestByWeights(text, length, factor));
                }
            }
        }
    }

    /** By the weights and cycles of nine carousels. */
    private static int bestByWeights(String text, int length, int factor) {
        int best = 0;
        BroadcastCarousel least = Check.with("index 0 " + length + ";" + text);
        for (int segments = 1; segments <= 8; segments++) {
            BroadcastCarousel y = Check.with("index " + segments + " " + length + ";" + text);
            java.math.BigInteger mine = java.math.BigInteger.valueOf(y.weight(factor));
            java.math.BigInteger others = java.math.BigInteger.valueOf(least.weight(factor));
            if (mine.multiply(java.math.BigInteger.valueOf(least.cycle()))
                    .compareTo(others.multiply(java.math.BigInteger.valueOf(y.cycle()))) < 0) {
                best = segments;
                least = y;
            }
        }
        return best;
    }

    private void worstTimes() {
        BroadcastCarousel x = Check.with(INDEX + "disk 1;item 1 0 0;item 1 0 0;item 1 0 0;");
        e.promise(32, "Finds the time at which the waiting for any of some items is longest: the time t, 0 to the cycle minus 1, with the greatest sum of the access times of these items.");
        e.due(x, "worstTime(1)", 1);
        // The last time of the cycle, and the first one, which is as far behind the item 2.
        e.due(x, "worstTime(2)", 2);
        e.due(x, "worstTime(4)", 0);
        // Sums of 0 and 1: 3, 4 and 5; of 1 and 2: 5, 3 and 4; of 0 and 2: 4, 5 and 3.
        e.due(x, "worstTime(3)", 2);
        e.due(x, "worstTime(6)", 0);
        e.due(x, "worstTime(5)", 1);
        e.due(four(), "worstTime(1)", 1);
        e.due(four(), "worstTime(3)", 1);
        e.promise(32, "Returns the time; of several the least.");
        e.due(x, "worstTime(7)", 0);
        e.due(Check.with(INDEX + "disk 6;item 1 0 0;"), "worstTime(1)", 0);
        // 0 1 0 1: as long at 3 as at 1; 1 waits longest at 0 and 2.
        BroadcastCarousel y = Check.with(INDEX + "disk 2;item 1 0 0;item 1 0 0;");
        e.due(y, "worstTime(1)", 1);
        e.due(y, "worstTime(2)", 0);
    }

    private void leastWorth() {
        e.promise(33, "Finds the item whose removal from the program would be missed least: the one with the least quotient of popularity and number of its slots in one cycle (compared exactly).");
        // 50 / 3, 33 / 2 and 99 / 6: truncated all are 16.
        BroadcastCarousel x = Check.with(INDEX + "disk 3;disk 2;disk 6;item 50 0 0;item 33 1 0;item 99 2 0;");
        e.due(x, "leastWorth()", 1);
        Calls.make(x, "setPopularity(2, 98)");
        e.due(x, "leastWorth()", 2);
        Calls.make(x, "setPopularity(0, 48)");
        e.due(x, "leastWorth()", 0);
        e.promise(33, "Returns number of the item; of several the lowest.");
        Calls.make(x, "setPopularity(0, 49)");
        e.due(x, "leastWorth()", 0);
        e.due(Check.with(INDEX + "disk 3;disk 2;disk 6;item 50 0 0;item 99 2 0;item 33 1 0;"), "leastWorth()", 1);
        e.due(Check.with(INDEX + "disk 1;disk 6;item 1 0 0;item 0 1 0;item 0 0 0;"), "leastWorth()", 1);
        e.due(Check.with(INDEX + "disk 1;item 9 0 0;"), "leastWorth()", 0);
        e.due(Check.with(INDEX + "disk 1;" + "item 9 0 0;".repeat(15) + "item 8 0 0;"), "leastWorth()", 15);
    }
}
