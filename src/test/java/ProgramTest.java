/** Promises 15 to 33: settings, the program, access; and 8 to 12, which change them. */
public final class ProgramTest {
    private static final Check check = new Check();

    // Six rounds of three slots, with a segment before the data slots 0 and 9:
    //   -3 -4  0 1 3  - 2 4  0 - -   -3 -4  - 1 -  0 2 -  - - -
    private static final String INDEXED = "index 2 2;disk 3;disk 2;disk 1;"
            + "item 40 0 0;item 30 1 0;item 20 1 0;item 10 2 0;item 0 2 0;";
    private static final int[] SLOTS = {
        -3, -4, 0, 1, 3, -2, 2, 4, 0, -2, -2, -3, -4, -2, 1, -2, 0, 2, -2, -2, -2, -2
    };

    public static void main(String[] args) {
        settings();
        setters();
        slots();
        chunks();
        segments();
        items();
        gaps();
        access();
        accessWithEightSegments();
        sums();
        bestNumberOfSegments();
        worstTimes();
        worths();
        check.end();
    }

    private static void settings() {
        BroadcastCarousel x = Check.with("index 0 1;disk 3;disk 6;item 40 1 7;item 99 0 999;item 1 1 0;");
        check.due("15: popularity", 40, () -> x.itemValue(0, 0));
        check.due("15: disk", 1, () -> x.itemValue(0, 1));
        check.due("15: bound", 7, () -> x.itemValue(0, 2));
        check.due("15: popularity", 99, () -> x.itemValue(1, 0));
        check.due("15: bound", 999, () -> x.itemValue(1, 2));
        check.due("16: frequency(0)", 3, () -> x.frequency(0));
        check.due("16: frequency(1)", 6, () -> x.frequency(1));
        check.due("17: itemsOf(0)", 2, () -> x.itemsOf(0));
        check.due("17: itemsOf(1)", 5, () -> x.itemsOf(1));
        x.moveItem(1, 1);
        check.due("17: itemsOf() of an unused disk", 0, () -> x.itemsOf(0));
        check.due("17: itemsOf(1)", 7, () -> x.itemsOf(1));
    }

    private static void setters() {
        BroadcastCarousel x = Check.with(INDEXED);
        check.due("8: setPopularity", 40, () -> x.setPopularity(0, 99));
        check.due("8: setPopularity", 99, () -> x.setPopularity(0, 0));
        check.due("8: popularity", 0, () -> x.itemValue(0, 0));
        check.due("9: setBound", 0, () -> x.setBound(4, 999));
        check.due("9: setBound", 999, () -> x.setBound(4, 1));
        check.due("9: bound", 1, () -> x.itemValue(4, 2));
        check.due("9: violations()", 16, x::violations);
        check.due("10: setFrequency", 3, () -> x.setFrequency(0, 1));
        check.due("10: frequency", 1, () -> x.frequency(0));
        // Two rounds: 0 in the first, 1 and 2 in both, 3 and 4 in one each; 2 * 4 data slots.
        check.due("10: cycle()", 12, x::cycle);
        check.due("10: setFrequency", 1, () -> x.setFrequency(0, 6));
        check.due("10: cycle()", 22, x::cycle);
        check.due("11: setIndex", 18, () -> x.setIndex(0, 4));
        check.due("11: setIndex", 50, () -> x.setIndex(8, 4));
        check.due("11: cycle()", 50, x::cycle);
        check.due("11: setIndex", 19, () -> x.setIndex(1, 1));
        check.due("12: moveItem", 0, () -> x.moveItem(0, 2));
        check.due("12: moveItem to its own disk", 2, () -> x.moveItem(0, 2));
        check.due("12: disk", 2, () -> x.itemValue(0, 1));
        check.due("12: slotAt(1)", 1, () -> x.slotAt(1));
        check.due("12: itemsOf(2)", 25, () -> x.itemsOf(2));
        // 0 3 and 4 - on the disk 2, 1 2 on the disk 1: two rounds of four slots, and a segment.
        check.due("11: setIndex", 11, () -> x.setIndex(1, 3));
    }

    private static void slots() {
        BroadcastCarousel x = Check.with(INDEXED);
        check.due("18: cycle()", SLOTS.length, x::cycle);
        for (int t = 0; t < SLOTS.length; t++) {
            int time = t;
            check.due("19: slotAt(" + t + ")", SLOTS[t], () -> x.slotAt(time));
            check.due("19: slotAt(" + (t + 22000) + ")", SLOTS[t], () -> x.slotAt(time + 22000));
        }
        check.due("19: slotAt(999999)", SLOTS[999999 % 22], () -> x.slotAt(999999));
        check.due("21: emptySlots()", 9, x::emptySlots);
        int[] number = {3, 2, 2, 1, 1};
        for (int i = 0; i < 5; i++) {
            int item = i;
            check.due("20: occurrences(" + i + ")", number[i], () -> x.occurrences(item));
            check.dueDouble("25: share(" + i + ")", number[i] / 22.0, () -> x.share(item));
        }
    }

    private static void expect(String what, BroadcastCarousel x, int... due) {
        check.due("18: cycle() of " + what, due.length, x::cycle);
        for (int t = 0; t < due.length; t++) {
            int time = t;
            check.due("19: slotAt(" + t + ") of " + what, due[t], () -> x.slotAt(time));
        }
    }

    private static void chunks() {
        expect("one item", Check.with("index 0 1;disk 1;item 0 0 0;"), 0);
        expect("one item, six times", Check.with("index 0 1;disk 6;item 0 0 0;"), 0, 0, 0, 0, 0, 0);
        expect("equal frequencies", Check.with("index 0 1;disk 3;disk 3;item 0 1 0;item 0 0 0;"),
                1, 0, 1, 0, 1, 0);
        // Three chunks of two: the last one is empty as a whole.
        expect("chunks filled one after the other",
                Check.with("index 0 1;disk 3;disk 1;item 0 1 0;item 0 1 0;item 0 1 0;item 0 1 0;item 0 0 0;"),
                4, 0, 1, 4, 2, 3, 4, -2, -2);
        // An unused disk does not make more rounds.
        expect("an unused disk", Check.with("index 0 1;disk 5;disk 2;disk 1;item 0 1 0;item 0 2 0;item 0 2 0;"),
                0, 1, 0, 2);
        expect("disks by number", Check.with("index 0 1;disk 1;disk 2;item 0 1 0;item 0 0 0;item 0 0 0;"),
                1, 0, 2, 0);
        BroadcastCarousel x = Check.with("index 8 4;disk 4;disk 5;disk 6;disk 3;"
                + "item 1 0 0;item 1 1 0;item 1 3 0;" + "item 1 2 0;".repeat(13));
        // Sixty rounds of one slot of three disks and two of the third one, the longest program.
        check.due("18: cycle() of the longest", 332, x::cycle);
        check.due("20: occurrences", 6, () -> x.occurrences(15));
        check.due("21: emptySlots()", 300 - 4 - 5 - 3 - 78, x::emptySlots);
    }

    private static void segments() {
        expect("a segment for every slot", Check.with("index 3 1;disk 1;item 0 0 0;item 0 0 0;item 0 0 0;"),
                -3, 0, -3, 1, -3, 2);
        expect("more segments than slots", Check.with("index 5 1;disk 1;item 0 0 0;item 0 0 0;item 0 0 0;"),
                -3, -3, 0, -3, -3, 1, -3, 2);
        expect("segments before one slot", Check.with("index 2 3;disk 1;item 0 0 0;"),
                -3, -4, -5, -3, -4, -5, 0);
        expect("places rounded down", Check.with("index 2 1;disk 1;item 0 0 0;item 0 0 0;item 0 0 0;"),
                -3, 0, -3, 1, 2);
        BroadcastCarousel x = Check.with("index 1 4;disk 1;item 0 0 0;");
        expect("four slots of a segment", x, -3, -4, -5, -6, 0);
    }

    private static void items() {
        BroadcastCarousel x = Check.with(INDEXED);
        check.due("24: nextTime(0, 0)", 2, () -> x.nextTime(0, 0));
        check.due("24: nextTime(0, 2)", 2, () -> x.nextTime(0, 2));
        check.due("24: nextTime(0, 3)", 8, () -> x.nextTime(0, 3));
        check.due("24: nextTime(0, 17)", 24, () -> x.nextTime(0, 17));
        check.due("24: nextTime(3, 5)", 26, () -> x.nextTime(3, 5));
        check.due("24: nextTime(3, 22005)", 22026, () -> x.nextTime(3, 22005));
        BroadcastCarousel y = Check.with("index 0 1;disk 6;item 0 0 0;item 0 0 0;");
        check.due("24: nextTime behind the sixth slot", 12, () -> y.nextTime(0, 11));
        check.due("24: nextTime(4, 999999)", 999999 - 11 + 22 + 7, () -> x.nextTime(4, 999999));
    }

    private static void gaps() {
        BroadcastCarousel x = Check.with(INDEXED);
        int[] gaps = {8, 11, 11, 22, 22};
        for (int i = 0; i < 5; i++) {
            int item = i;
            check.due("22: gap(" + i + ")", gaps[i], () -> x.gap(item));
        }
        check.due("23: violations() without bounds", 0, x::violations);
        x.setBound(0, 8);
        x.setBound(1, 10);
        x.setBound(2, 11);
        x.setBound(4, 21);
        check.due("23: violations()", 2 + 16, x::violations);
        check.due("22: gap of six slots", 2, () -> Check.with("index 0 1;disk 6;item 0 0 0;item 0 0 0;").gap(1));
        check.due("22: gap over a segment", 5, () -> Check.with("index 1 3;disk 6;item 0 0 0;item 0 0 0;").gap(1));
        check.due("22: gap of one alone", 1, () -> Check.with("index 0 1;disk 4;item 0 0 1;").gap(0));
        check.due("23: violations() of one alone", 0, () -> Check.with("index 0 1;disk 4;item 0 0 1;").violations());
        BroadcastCarousel y = Check.with("index 0 1;disk 1;disk 1;item 0 0 1;item 0 1 2;");
        check.due("22: gap in every cycle", 2, () -> y.gap(0));
        check.due("23: a bound that is just met", 1, y::violations);
    }

    private static void access() {
        BroadcastCarousel x = Check.with(INDEXED);
        waits(x, 0, 0, 3, 3);
        waits(x, 0, 1, 16, 4);
        waits(x, 0, 2, 1, 1);
        waits(x, 0, 3, 14, 4);
        waits(x, 0, 8, 1, 1);
        waits(x, 0, 10, 7, 4);
        waits(x, 0, 11, 6, 3);
        waits(x, 0, 12, 13, 4);
        waits(x, 0, 21, 4, 4);
        waits(x, 0, 22, 3, 3);
        waits(x, 3, 5, 22, 4);
        waits(x, 3, 11, 16, 3);
        waits(x, 4, 7, 1, 1);
        waits(x, 4, 999999, 19, 3);
        BroadcastCarousel y = Check.with("index 0 4;disk 1;item 0 0 0;item 0 0 0;item 0 0 0;");
        waits(y, 0, 0, 1, 1);
        waits(y, 0, 1, 3, 3);
        waits(y, 2, 0, 3, 3);
        waits(y, 2, 999999, 3, 3);
        // Two segments in a row: the first one is heard to its end, then the item is awaited.
        BroadcastCarousel z = Check.with("index 2 2;disk 1;item 0 0 0;");
        waits(z, 0, 0, 5, 3);
        waits(z, 0, 1, 4, 4);
        waits(z, 0, 2, 3, 3);
        waits(z, 0, 3, 7, 4);
        waits(z, 0, 4, 1, 1);
    }

    /** -3 0 -3 1 and so on, for eight items: a segment before every slot. */
    private static void accessWithEightSegments() {
        BroadcastCarousel x = Check.with("index 8 1;disk 1;" + "item 1 0 0;".repeat(8));
        waits(x, 7, 14, 2, 2);
        waits(x, 7, 13, 3, 3);
        waits(x, 7, 15, 1, 1);
        waits(x, 0, 15, 3, 3);
        waits(x, 6, 15, 15, 3);
        waits(x, 0, 2, 16, 2);
        waits(x, 0, 1, 1, 1);
    }

    private static void waits(BroadcastCarousel x, int item, int time, int access, int tuning) {
        check.due("26: accessTime(" + item + ", " + time + ")", access, () -> x.accessTime(item, time));
        check.due("27: tuningTime(" + item + ", " + time + ")", tuning, () -> x.tuningTime(item, time));
    }

    private static void sums() {
        BroadcastCarousel x = Check.with(INDEXED);
        check.due("28: worstAccess(0)", 16, () -> x.worstAccess(0));
        check.due("28: worstAccess(3)", 26, () -> x.worstAccess(3));
        check.dueDouble("30: meanAccess(0)", 179.0 / 22.0, () -> x.meanAccess(0));
        check.dueDouble("30: meanAccess(1)", 176.0 / 22.0, () -> x.meanAccess(1));
        check.dueDouble("30: meanAccess(2)", 242.0 / 22.0, () -> x.meanAccess(2));
        check.dueDouble("30: meanAccess(3)", 319.0 / 22.0, () -> x.meanAccess(3));
        check.due("29: weight(0)", 20470, () -> x.weight(0));
        check.due("29: weight(1)", 28380, () -> x.weight(1));
        check.due("29: weight(99)", 20470 + 99 * 7910, () -> x.weight(99));
        x.setIndex(0, 1);
        // Without segments: 0 at 0, 6, 12; gaps 6.
        check.due("28: worstAccess(0)", 6, () -> x.worstAccess(0));
        check.dueDouble("30: meanAccess(0)", 63.0 / 18.0, () -> x.meanAccess(0));
        // 1 and 2 have gaps of 9, 3 has one of 18: 45 + 45 and 171.
        check.due("29: weight(0)", 40 * 63 + 50 * 90 + 10 * 171, () -> x.weight(0));
        check.due("29: weight(2)", 3 * (40 * 63 + 50 * 90 + 10 * 171), () -> x.weight(2));
        // Sixty rounds of four slots: gaps of 60, 48 and 40, and 13 items with one of 240.
        BroadcastCarousel z = Check.with("index 0 1;disk 1;item 1 0 0;item 1 0 0;item 1 0 0;");
        check.due("28: worst at the time 0", 3, () -> z.worstAccess(2));
        check.due("28: worst behind it", 3, () -> z.worstAccess(0));
        check.due("28: one alone", 1, () -> Check.with("index 0 1;disk 1;item 1 0 0;").worstAccess(0));
        check.dueDouble("30: one alone", 1.0, () -> Check.with("index 0 1;disk 1;item 1 0 0;").meanAccess(0));
        check.dueDouble("25: one alone", 1.0, () -> Check.with("index 0 1;disk 1;item 1 0 0;").share(0));
        BroadcastCarousel y = Check.with("index 0 1;disk 4;disk 5;disk 6;disk 1;"
                + "item 99 0 0;item 99 1 0;item 99 2 0;" + "item 99 3 0;".repeat(13));
        long sum = 4 * 30 * 61 + 5 * 24 * 49 + 6 * 20 * 41 + 13 * 120 * 241;
        check.due("29: weight(0)", 99 * sum, () -> y.weight(0));
        check.due("29: a weight above the ints", 9900 * sum, () -> y.weight(99));
    }

    private static void bestNumberOfSegments() {
        BroadcastCarousel x = Check.with("index 2 1;disk 1;" + "item 5 0 0;".repeat(16));
        check.due("31: bestSegments(0)", 0, () -> x.bestSegments(0));
        // With m segments the tuning times of an item sum up to 46 + 2 * m in a cycle of 16 + m,
        // and their quotient falls with m; so does the mean access time, from 16.5 to some 13.5.
        check.due("31: bestSegments(99)", 8, () -> x.bestSegments(99));
        check.due("31: it changes nothing", 18, x::cycle);
        BroadcastCarousel y = Check.with("index 5 4;disk 1;item 0 0 0;item 0 0 0;");
        check.due("31: of several the least", 0, () -> y.bestSegments(50));
        // One item alone, six times in a row, is on the air always but for the segments.
        BroadcastCarousel z = Check.with("index 8 1;disk 6;item 1 0 0;");
        check.due("31: bestSegments(9)", 0, () -> z.bestSegments(9));
    }

    private static void worstTimes() {
        BroadcastCarousel x = Check.with(INDEXED);
        check.due("32: worstTime of item 0", 1, () -> x.worstTime(1));
        check.due("32: worstTime of item 3", 1, () -> x.worstTime(8));
        // At 4 item 3 is there at once; sums of 0 and 3: 1 gives 16 + 26.
        check.due("32: worstTime of items 0 and 3", 1, () -> x.worstTime(9));
        x.setIndex(0, 1);
        // 0 - - - - - (0 1 3 - 2 4): behind an item its waiting is longest.
        check.due("32: worstTime of item 3", 3, () -> x.worstTime(8));
        check.due("32: worstTime of item 1", 2, () -> x.worstTime(2));
        check.due("32: worstTime of items 1 and 3", 3, () -> x.worstTime(10));
        // At 7 the waits are 6, 4, 7, 14 and 17; at 6 they are 1, 5, 8, 15 and 18.
        check.due("32: worstTime of all", 7, () -> x.worstTime(31));
        check.due("32: worstTime of one alone", 0, () -> Check.with("index 0 1;disk 3;item 5 0 0;").worstTime(1));
    }

    private static void worths() {
        check.due("33: leastWorth()", 4, () -> Check.with(INDEXED).leastWorth());
        // 9 / 3, 7 / 2, 3 / 1, 4 / 1: the first of two least.
        BroadcastCarousel x = Check.with("index 0 1;disk 3;disk 2;disk 1;item 9 0 0;item 7 1 0;item 3 2 0;item 4 2 0;");
        check.due("33: of several the lowest", 0, x::leastWorth);
        x.setPopularity(0, 10);
        check.due("33: leastWorth()", 2, x::leastWorth);
        x.setPopularity(1, 5);
        check.due("33: compared exactly", 1, x::leastWorth);
    }
}
