/** The edges of parts 1 and 3 and of promises 8 to 12 and 15 to 25: settings and program. */
final class ProgramEdges {
    private static final String INDEX = "index 0 1;";
    // Sixty rounds: four disks send one slot each, but the one with thirteen items two.
    private static final String LONGEST = "index 8 4;disk 4;disk 5;disk 6;disk 3;"
            + "item 1 0 0;item 1 1 0;item 1 3 0;" + "item 1 2 0;".repeat(13);

    private final Edges e;

    ProgramEdges(Edges edges) {
        e = edges;
    }

    void look() {
        divisions();
        products();
        usedDisks();
        rounds();
        chunkLengths();
        chunksFilled();
        chunksSent();
        segments();
        cycles();
        again();
        gaps();
        violations();
        setters();
        settings();
        slots();
        occurrences();
        nextTimes();
        shares();
    }

    private static String items(int count) {
        return "item 1 0 0;".repeat(count);
    }

    // ---- part 1

    private void divisions() {
        e.part(1, "All numbers are integers if nothing else is said.");
        // The segments stand before the slots 0 and 1, not 0 and 1.5.
        e.slots(Check.with("index 2 1;disk 1;" + items(3)), -3, 0, -3, 1, 2);
        e.part(1, "Every division truncates toward zero unless it is said to be rounded up; products are computed without overflow.");
        e.slots(Check.with("index 3 1;disk 1;" + items(5)), -3, 0, -3, 1, 2, -3, 3, 4);
        e.slots(Check.with("index 4 1;disk 1;" + items(7)), -3, 0, -3, 1, 2, -3, 3, 4, -3, 5, 6);
        e.slots(Check.with("index 8 1;disk 1;" + items(3)), -3, -3, -3, 0, -3, -3, -3, 1, -3, -3, 2);
        e.slots(Check.with("index 2 1;disk 1;" + items(4)), -3, 0, 1, -3, 2, 3);
    }

    private void products() {
        e.part(1, "products are computed without overflow");
        // Sixty rounds of four slots: gaps of 60, 48 and 40, and 13 items with one of 240.
        BroadcastCarousel x = Check.with(INDEX + "disk 4;disk 5;disk 6;disk 1;"
                + "item 99 0 0;item 99 1 0;item 99 2 0;" + "item 99 3 0;".repeat(13));
        long sum = 4 * 1830 + 5 * 1176 + 6 * 820 + 13 * 28920;
        e.due(x, "weight(0)", 99 * sum);
        e.due(x, "weight(54)", 99 * 55 * sum);
        e.due(x, "weight(55)", 99 * 56 * sum);
        e.due(x, "weight(99)", 9900 * sum);
    }

    // ---- part 3

    private void usedDisks() {
        e.part(3, "Only disks with at least one item are used.");
        BroadcastCarousel x = Check.with(INDEX + "disk 5;disk 2;disk 1;item 0 1 0;item 0 2 0;item 0 2 0;");
        e.slots(x, 0, 1, 0, 2);
        // The first item of one disk, and the last of another.
        e.due(x, "moveItem(0, 0)", 1);
        e.slots(x, 0, 1, 0, 2, 0, -2, 0, -2, 0, -2);
        e.due(x, "moveItem(0, 2)", 0);
        e.slots(x, 0, 1, 2);
        e.due(x, "setFrequency(0, 6)", 5);
        e.slots(x, 0, 1, 2);
        e.due(x, "setFrequency(2, 2)", 1);
        e.slots(x, 0, 1, 2, 0, 1, 2);
    }

    private void rounds() {
        e.part(3, "Let N be the least common multiple of the frequencies of the used disks.");
        int[][] multiples = {
            {1, 2, 3, 4, 5, 6}, {2, 2, 6, 4, 10, 6}, {3, 6, 3, 12, 15, 6},
            {4, 4, 12, 4, 20, 12}, {5, 10, 15, 20, 5, 30}, {6, 6, 6, 12, 30, 6},
        };
        for (int a = 1; a <= 6; a++) {
            e.due(Check.with(INDEX + "disk " + a + ";item 1 0 0;"), "cycle()", a);
            for (int b = 1; b <= 6; b++) {
                BroadcastCarousel x = Check.with(INDEX + "disk " + a + ";disk " + b + ";item 1 0 0;item 1 1 0;");
                e.due(x, "cycle()", 2 * multiples[a - 1][b - 1]);
            }
        }
        e.due(Check.with(INDEX + "disk 4;disk 5;disk 6;item 1 0 0;item 1 1 0;item 1 2 0;"), "cycle()", 180);
        e.due(Check.with(INDEX + "disk 6;disk 4;disk 3;item 1 0 0;item 1 1 0;item 1 2 0;"), "cycle()", 36);
    }

    /** Some items on a disk of the frequency 1, and one more on a disk of the frequency 3. */
    private static BroadcastCarousel threeChunks(int count) {
        return Check.with(INDEX + "disk 3;disk 1;" + "item 1 1 0;".repeat(count) + "item 1 0 0;");
    }

    private void chunkLengths() {
        e.part(3, "The items of a used disk with the frequency F, by ascending number, are divided into N / F chunks of the same length: the number of its items divided by N / F, rounded up.");
        int[] cycles = {6, 6, 6, 9, 9, 9, 12, 12, 12, 15, 15, 15, 18, 18, 18};
        for (int count = 1; count <= 15; count++) {
            e.due(threeChunks(count), "cycle()", cycles[count - 1]);
        }
        e.slots(threeChunks(1), 1, 0, 1, -2, 1, -2);
        e.slots(threeChunks(2), 2, 0, 2, 1, 2, -2);
        e.slots(threeChunks(3), 3, 0, 3, 1, 3, 2);
        e.part(3, "by ascending number");
        BroadcastCarousel x = Check.with(INDEX + "disk 1;disk 1;item 1 0 0;item 1 1 0;item 1 0 0;item 1 1 0;");
        e.slots(x, 0, 2, 1, 3);
        Calls.make(x, "moveItem(2, 1); moveItem(0, 1)");
        e.slots(x, 0, 1, 2, 3);
        Calls.make(x, "moveItem(3, 0); moveItem(1, 0)");
        e.slots(x, 1, 3, 0, 2);
    }

    private void chunksFilled() {
        e.part(3, "The chunks are filled one after the other; places for which there is no item are empty.");
        // Not 0 and 1, 2, 3: the first chunks are full, and the last one may have no item at all.
        e.slots(threeChunks(4), 4, 0, 1, 4, 2, 3, 4, -2, -2);
        e.slots(threeChunks(5), 5, 0, 1, 5, 2, 3, 5, 4, -2);
        e.slots(threeChunks(6), 6, 0, 1, 6, 2, 3, 6, 4, 5);
        e.slots(threeChunks(7), 7, 0, 1, 2, 7, 3, 4, 5, 7, 6, -2, -2);
    }

    private void chunksSent() {
        e.part(3, "The data consists of N rounds; in round i (from 0) each used disk, by ascending number, sends its chunk number i modulo (N / F).");
        BroadcastCarousel x = Check.with(INDEX + "disk 2;disk 3;item 1 0 0;item 1 0 0;item 1 0 0;item 1 1 0;item 1 1 0;");
        e.slots(x, 0, 3, 1, 4, 2, 3, 0, 4, 1, 3, 2, 4);
        e.slots(Check.with(INDEX + "disk 3;disk 2;item 1 1 0;item 1 1 0;item 1 1 0;item 1 0 0;item 1 0 0;"),
                3, 0, 4, 1, 3, 2, 4, 0, 3, 1, 4, 2);
        e.slots(Check.with(INDEX + "disk 1;item 1 0 0;"), 0);
        e.slots(Check.with(INDEX + "disk 6;item 1 0 0;"), 0, 0, 0, 0, 0, 0);
        e.part(3, "Let S be the number of data slots.");
        e.due(Check.with("index 1 1;disk 6;item 1 0 0;"), "cycle()", 7);
    }

    private void segments() {
        e.part(3, "There are M index segments, each of L slots.");
        for (int segments = 0; segments <= 8; segments++) {
            for (int length = 1; length <= 4; length++) {
                BroadcastCarousel x = Check.with("index " + segments + " " + length + ";disk 1;" + items(5));
                int[] found = new int[5];
                for (int time = 0; time < x.cycle(); time++) {
                    found[Math.max(0, -2 - x.slotAt(time))]++;
                }
                for (int p = 0; p < 4; p++) {
                    e.equal("slots number " + p, p < length ? segments : 0, found[p + 1]);
                }
            }
        }
        e.part(3, "Segment k (0 to M - 1) stands before the data slot number k * S / M (several segments may stand before the same data slot, one after the other).");
        e.slots(Check.with("index 1 1;disk 1;" + items(2)), -3, 0, 1);
        e.slots(Check.with("index 2 1;disk 1;" + items(2)), -3, 0, -3, 1);
        e.slots(Check.with("index 3 1;disk 1;" + items(2)), -3, -3, 0, -3, 1);
        e.slots(Check.with("index 4 2;disk 1;" + items(2)), -3, -4, -3, -4, 0, -3, -4, -3, -4, 1);
        e.slots(Check.with("index 8 1;disk 1;" + items(1)), -3, -3, -3, -3, -3, -3, -3, -3, 0);
        e.slots(Check.with("index 2 3;disk 1;" + items(1)), -3, -4, -5, -3, -4, -5, 0);
        e.slots(Check.with("index 8 1;disk 1;" + items(8)), -3, 0, -3, 1, -3, 2, -3, 3, -3, 4, -3, 5, -3, 6, -3, 7);
    }

    private void cycles() {
        e.part(3, "The program is the data with the segments; its length is the cycle.");
        e.due(Check.with(INDEX + "disk 1;item 1 0 0;"), "cycle()", 1);
        e.due(Check.with("index 8 4;disk 1;item 1 0 0;"), "cycle()", 33);
        e.due(Check.with(LONGEST), "cycle()", 332);
        e.promise(18, "Returns the number of slots.");
        e.due(Check.with("index 0 4;disk 1;item 1 0 0;"), "cycle()", 1);
        e.due(Check.with(LONGEST), "cycle()", 332);
    }

    private void again() {
        e.part(3, "It is sent again and again: the slot at the time t (0 or more) is the slot number t modulo the cycle.");
        BroadcastCarousel x = Check.with("index 1 2;disk 1;" + items(5));
        int[] slots = {-3, -4, 0, 1, 2, 3, 4};
        for (int time : new int[] {0, 1, 6, 7, 8, 13, 14, 6999, 7000, 999998, 999999}) {
            e.due(x, "slotAt(" + time + ")", slots[time % 7]);
        }
        BroadcastCarousel longest = Check.with(LONGEST);
        e.due(longest, "slotAt(0)", -3);
        e.due(longest, "slotAt(331)", longest.slotAt(331 + 332));
        e.due(longest, "slotAt(332)", -3);
        e.due(longest, "slotAt(" + 3012 * 332 + ")", -3);
    }

    private void gaps() {
        e.part(3, "The gap of an item is the greatest difference of the times of two successive slots with this item.");
        e.due(Check.with(INDEX + "disk 1;item 1 0 0;"), "gap(0)", 1);
        e.due(Check.with(INDEX + "disk 6;item 1 0 0;"), "gap(0)", 1);
        e.due(Check.with(INDEX + "disk 1;" + items(16)), "gap(15)", 16);
        // One slot in a cycle: the next one is a cycle later.
        e.due(Check.with("index 1 3;disk 1;item 1 0 0;item 1 0 0;"), "gap(0)", 5);
        // -3 -4 -5 -6 0 0: the greatest difference is the one from the end to the beginning.
        e.due(Check.with("index 1 4;disk 2;item 1 0 0;"), "gap(0)", 5);
        // -3 0 1 -3 0 1 with four slots of each segment: the same in the midst.
        e.due(Check.with("index 2 4;disk 2;item 1 0 0;item 1 0 0;"), "gap(0)", 6);
        e.due(Check.with("index 2 1;disk 3;item 1 0 0;"), "gap(0)", 2);
        e.due(Check.with(LONGEST), "gap(0)", longestGap(0));
        e.promise(22, "Returns the gap of an item.");
        e.due(Check.with(INDEX + "disk 2;disk 1;item 1 0 0;item 1 1 0;"), "gap(0)", 2);
        e.due(Check.with(INDEX + "disk 2;disk 1;item 1 0 0;item 1 1 0;"), "gap(1)", 4);
    }

    /** Looked up slot by slot. */
    private static int longestGap(int item) {
        BroadcastCarousel x = Check.with(LONGEST);
        int longest = 0;
        int last = -1;
        for (int time = 0; time < 2 * x.cycle(); time++) {
            if (x.slotAt(time) == item) {
                longest = last < 0 ? 0 : Math.max(longest, time - last);
                last = time;
            }
        }
        return longest;
    }

    private void violations() {
        e.part(3, "An item violates its bound if the bound is above 0 and the gap is above the bound.");
        // A gap of 5 from the end to the beginning.
        BroadcastCarousel x = Check.with("index 1 4;disk 2;item 1 0 0;");
        int[] bounds = {0, 1, 4, 5, 6, 999};
        int[] due = {0, 1, 1, 0, 0, 0};
        for (int n = 0; n < bounds.length; n++) {
            Calls.make(x, "setBound(0, " + bounds[n] + ")");
            e.due(x, "violations()", due[n]);
        }
        e.due(Check.with(INDEX + "disk 1;item 1 0 1;"), "violations()", 0);
        e.due(Check.with(INDEX + "disk 1;item 1 0 1;item 1 0 1;"), "violations()", 3);
        e.due(Check.with(INDEX + "disk 1;item 1 0 1;item 1 0 2;"), "violations()", 1);
        e.promise(23, "Returns the items that violate their bounds.");
        e.due(Check.with(INDEX + "disk 1;" + "item 1 0 15;".repeat(16)), "violations()", 65535);
        e.due(Check.with(INDEX + "disk 1;" + "item 1 0 16;".repeat(16)), "violations()", 0);
        e.due(Check.with(INDEX + "disk 1;" + items(16)), "violations()", 0);
    }

    // ---- promises 8 to 12

    private void setters() {
        BroadcastCarousel x = Check.with(INDEX + "disk 1;disk 2;item 5 0 7;item 6 1 8;");
        e.promise(8, "Sets the popularity of an item.");
        e.due(x, "setPopularity(0, 0)", 5);
        e.due(x, "setPopularity(0, 99)", 0);
        e.due(x, "itemValue(0, 0)", 99);
        e.due(x, "itemValue(1, 0)", 6);
        e.promise(9, "Sets the bound of an item.");
        e.due(x, "setBound(1, 0)", 8);
        e.due(x, "setBound(1, 999)", 0);
        e.due(x, "itemValue(1, 2)", 999);
        e.due(x, "itemValue(0, 2)", 7);
        e.promise(10, "Sets the frequency of a disk.");
        e.due(x, "setFrequency(0, 6)", 1);
        e.due(x, "frequency(0)", 6);
        e.due(x, "cycle()", 12);
        e.due(x, "setFrequency(0, 1)", 6);
        e.due(x, "cycle()", 4);
        e.due(x, "setFrequency(0, 1)", 1);
        e.promise(11, "Sets the number and the length of the index segments.");
        e.due(x, "setIndex(8, 4)", 36);
        e.due(x, "slotAt(3)", -6);
        e.due(x, "setIndex(0, 4)", 4);
        e.due(x, "setIndex(8, 1)", 12);
        e.due(x, "setIndex(0, 1)", 4);
        e.due(x, "slotAt(0)", 0);
        e.promise(12, "`disk`: number of a disk, possibly its own one");
        e.due(x, "moveItem(0, 0)", 0);
        e.due(x, "slotAt(0)", 0);
        e.due(x, "undo()", 9);
        e.promise(12, "Moves an item to a disk.");
        e.due(x, "moveItem(0, 1)", 0);
        e.due(x, "itemsOf(1)", 3);
        e.slots(x, 0, 1, 0, 1);
        e.due(x, "moveItem(0, 0)", 1);
        e.slots(x, 0, 1, -2, 1);
    }

    // ---- promises 15 to 25

    private void settings() {
        BroadcastCarousel x = Check.with(INDEX + "disk 1;disk 6;" + "item 0 0 999;item 99 0 0;".repeat(8));
        e.promise(15, "`what`: 0: popularity; 1: disk; 2: bound");
        e.due(x, "itemValue(0, 0)", 0);
        e.due(x, "itemValue(0, 2)", 999);
        e.due(x, "itemValue(15, 0)", 99);
        e.due(x, "itemValue(15, 1)", 0);
        e.due(x, "itemValue(15, 2)", 0);
        e.promise(16, "Returns 1 to 6.");
        e.due(x, "frequency(0)", 1);
        e.due(x, "frequency(1)", 6);
        e.promise(17, "Returns the items of a disk.");
        e.due(x, "itemsOf(0)", 65535);
        e.due(x, "itemsOf(1)", 0);
        Calls.make(x, "moveItem(15, 1)");
        e.due(x, "itemsOf(0)", 32767);
        e.due(x, "itemsOf(1)", 32768);
        Calls.make(x, "moveItem(0, 1)");
        e.due(x, "itemsOf(1)", 32769);
    }

    private void slots() {
        e.promise(19, "Returns the number of the item; -2 for an empty slot; -3 - p for the slot number p (0 to L - 1) of an index segment.");
        e.slots(Check.with("index 1 1;disk 2;disk 1;item 1 0 0;item 1 1 0;"), -3, 0, 1, 0, -2);
        e.slots(Check.with("index 1 2;disk 1;item 1 0 0;"), -3, -4, 0);
        e.slots(Check.with("index 1 3;disk 1;item 1 0 0;"), -3, -4, -5, 0);
        e.slots(Check.with("index 1 4;disk 1;item 1 0 0;"), -3, -4, -5, -6, 0);
        e.due(Check.with(INDEX + "disk 1;" + items(16)), "slotAt(15)", 15);
        e.promise(19, "Returns what the slot at a time contains.");
        e.due(Check.with(INDEX + "disk 1;" + items(16)), "slotAt(16)", 0);
        e.promise(21, "Returns the number of empty slots of one cycle.");
        e.due(Check.with(INDEX + "disk 6;item 1 0 0;"), "emptySlots()", 0);
        e.due(Check.with("index 8 4;disk 1;item 1 0 0;"), "emptySlots()", 0);
        // Thirty rounds of two slots, of which 6 and 5 have an item.
        e.due(Check.with(INDEX + "disk 6;disk 5;item 1 0 0;item 1 1 0;"), "emptySlots()", 49);
        e.due(Check.with("index 8 4;disk 6;disk 5;item 1 0 0;item 1 1 0;"), "emptySlots()", 49);
        e.due(Check.with(LONGEST), "emptySlots()", 300 - 4 - 5 - 3 - 13 * 6);
    }

    private void occurrences() {
        e.promise(20, "Returns 1 or more.");
        e.due(Check.with(INDEX + "disk 1;item 1 0 0;"), "occurrences(0)", 1);
        e.due(Check.with("index 8 4;disk 6;item 1 0 0;"), "occurrences(0)", 6);
        e.promise(20, "Returns how many slots of one cycle have an item.");
        BroadcastCarousel x = Check.with(LONGEST);
        int[] due = {4, 5, 3, 6};
        for (int item = 0; item < 4; item++) {
            e.due(x, "occurrences(" + item + ")", due[item]);
        }
        e.due(x, "occurrences(15)", 6);
    }

    private void nextTimes() {
        e.promise(24, "Returns the time of the first slot with an item from a time on.");
        BroadcastCarousel x = Check.with("index 1 2;disk 1;" + items(5));
        e.due(x, "nextTime(0, 0)", 2);
        e.due(x, "nextTime(0, 2)", 2);
        e.due(x, "nextTime(0, 3)", 9);
        e.due(x, "nextTime(4, 6)", 6);
        e.due(x, "nextTime(4, 7)", 13);
        // 999999 is the slot number 0 of a cycle of 7 slots; before it is the last item.
        e.due(x, "nextTime(4, 999999)", 1000005);
        e.due(x, "nextTime(4, 999998)", 999998);
        e.due(x, "nextTime(0, 999999)", 1000001);
        BroadcastCarousel six = Check.with(INDEX + "disk 6;item 1 0 0;item 1 0 0;");
        e.due(six, "nextTime(1, 11)", 11);
        e.due(six, "nextTime(0, 11)", 12);
        e.due(six, "nextTime(0, 10)", 10);
    }

    private void shares() {
        e.promise(25, "Returns the share of the slots of one cycle that have an item: their number divided by the cycle, both converted to double.");
        e.due(Check.with(INDEX + "disk 6;item 1 0 0;"), "share(0)", 1.0);
        e.due(Check.with("index 8 4;disk 1;item 1 0 0;"), "share(0)", 1 / 33.0);
        e.due(Check.with("index 8 4;disk 6;item 1 0 0;"), "share(0)", 6 / 38.0);
        e.due(Check.with(LONGEST), "share(2)", 3 / 332.0);
        e.due(Check.with(INDEX + "disk 1;" + items(3)), "share(1)", 1 / 3.0);
    }
}
