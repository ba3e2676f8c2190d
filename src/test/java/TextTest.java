/** Promises 1 to 5: a new object, append, truncate, load, errorPosition. */
public final class TextTest {
    private static final Check check = new Check();
    private static final String RIGHT = "index 0 1;disk 1;item 5 0 0;";

    public static void main(String[] args) {
        newObject();
        appending();
        truncating();
        loading();
        wrongTokens();
        wrongNumbers();
        tooMany();
        firstErrorCounts();
        failedLoadChangesNothing();
        loadStartsAnew();
        loadOfLessIsLikeNew();
        check.end();
    }

    private static void newObject() {
        BroadcastCarousel x = new BroadcastCarousel();
        check.due("1: NONE", -1, () -> BroadcastCarousel.NONE);
        check.noCarousel("1: cycle()", x::cycle);
        check.due("1: errorPosition()", -1, x::errorPosition);
        check.outOfRange("1: truncate(1)", () -> x.truncate(1));
        check.due("1: truncate(0)", 0, () -> x.truncate(0));
    }

    private static void appending() {
        BroadcastCarousel x = new BroadcastCarousel();
        // "inde" "x 0 " "1;di" "sk 1" ";ite" and "m 5 " "0 0;": the most significant byte first.
        check.due("2: append", 20, () -> x.append(0x696e6465, 0x78203020, 0x313b6469, 0x736b2031, 0x3b697465));
        check.due("2: append", 40, () -> x.append(0x6d203520, 0x3020303b, 0x20202020, 0x0a0a0a0a, 0x20202020));
        check.due("2: load()", 1, x::load);
        check.due("2: itemValue(0, 0)", 5, () -> x.itemValue(0, 0));
        for (int n = 1; n <= 25; n++) {
            int length = 20 * n;
            check.due("2: append to " + length, length, () -> x.append(0, 0, 0, 0, 0));
        }
        check.noCarousel("2: append above 500", () -> x.append(0, 0, 0, 0, 0));
        check.due("2: nothing was appended", 500, () -> x.truncate(500));
        check.outOfRange("2: nothing was appended", () -> x.truncate(501));
        x.truncate(481);
        check.noCarousel("2: append to 501", () -> x.append(0, 0, 0, 0, 0));
        x.truncate(480);
        check.due("2: append to 500", 500, () -> x.append(0, 0, 0, 0, 0));
        bytesAbove127();
    }

    private static void bytesAbove127() {
        BroadcastCarousel x = new BroadcastCarousel();
        x.append(0x20202020, 0x20202020, 0x202020e9, -1, -1);
        check.due("2: load() of a byte 233", -11, x::load);
        check.due("2: errorPosition()", 11, x::errorPosition);
    }

    private static void truncating() {
        BroadcastCarousel x = new BroadcastCarousel();
        Check.put(x, RIGHT + "x");
        check.outOfRange("3: truncate(-1)", () -> x.truncate(-1));
        check.outOfRange("3: truncate above the length", () -> x.truncate(RIGHT.length() + 2));
        check.outOfRange("3: truncate(MIN)", () -> x.truncate(Integer.MIN_VALUE));
        check.outOfRange("3: truncate(MAX)", () -> x.truncate(Integer.MAX_VALUE));
        check.due("3: truncate to the length", RIGHT.length() + 1, () -> x.truncate(RIGHT.length() + 1));
        check.due("3: truncate", RIGHT.length(), () -> x.truncate(RIGHT.length()));
        check.due("3: load() of the first bytes", 1, x::load);
        check.outOfRange("3: the buffer is empty", () -> x.truncate(1));
    }

    private static void loading() {
        right("a plain text", RIGHT, 1);
        right("no blanks", "index0 1;disk1;item5 0 0;client4lru;", 1);
        right("blanks everywhere", " \n index\n8  4 ; disk 6 ;\n item 99 0 999 ;  client 0 pix ; \n", 1);
        right("leading zeros", "index 0000 0001;disk 0006;item 0099 0000 0999;client 0004 lfu;", 1);
        right("all that there may be", "index 8 4;" + "disk 6;".repeat(4) + "item 99 3 999;".repeat(16)
                + "client 4 lru;".repeat(4), 16);
        BroadcastCarousel x = Check.with("index 2 3;disk 4;disk 5;item 11 1 22;item 0 0 0;client 3 lfu;client 0 pix;");
        check.due("4: frequency(0)", 4, () -> x.frequency(0));
        check.due("4: frequency(1)", 5, () -> x.frequency(1));
        check.due("4: itemValue(0, 0)", 11, () -> x.itemValue(0, 0));
        check.due("4: itemValue(0, 1)", 1, () -> x.itemValue(0, 1));
        check.due("4: itemValue(0, 2)", 22, () -> x.itemValue(0, 2));
        check.due("4: clientCount()", 2, x::clientCount);
        check.due("4: clientValue(0, 5)", 3, () -> x.clientValue(0, 5));
        check.due("4: slotAt(2)", -5, () -> x.slotAt(2));
    }

    private static void wrongTokens() {
        wrong("the empty text", "", 1, 0);
        wrong("blanks alone", " \n ", 1, 3);
        wrong("another word", "indices 0 1;", 1, 0);
        wrong("a word that goes on", "indexx 0 1;", 1, 0);
        wrong("a word cut short", "inde", 1, 0);
        wrong("another first letter", "ondex 0 1;", 1, 0);
        wrong("a word that goes on with a", "index 0 1;diska 1;", 1, 10);
        wrong("a word that goes on with z", "index 0 1;diskz 1;", 1, 10);
        wrong("disk first", "disk 1;", 1, 0);
        wrong("a capital", "Index 0 1;", 1, 0);
        wrong("a capital behind the keyword", "indeX 0 1;", 1, 0);
        wrong("a number first", "5", 1, 0);
        wrong("a semicolon first", ";", 1, 0);
        wrong("a tab", "index\t0 1;", 1, 5);
        wrong("a carriage return", "index\r0 1;", 1, 5);
        wrong("a sign", "index -1 1;", 1, 6);
        wrong("a zero byte", "index 0 1;\0", 1, 10);
        wrong("a zero byte at the end", RIGHT + "\0", 1, 28);
        wrong("a zero byte behind a blank", RIGHT + " \0 ", 1, 29);
        wrong("a word for a number", "index a 1;", 1, 6);
        wrong("a semicolon for a number", "index 0 ;", 1, 8);
        wrong("a number for a semicolon", "index 0 1 1;", 1, 10);
        wrong("an unknown byte for a semicolon", "index 0 1:disk 1;item 5 0 0;", 1, 9);
        wrong("no semicolon", "index 0 1 disk 1;item 5 0 0;", 1, 10);
        wrong("no last semicolon", "index 0 1;disk 1;item 5 0 0", 1, 27);
        wrong("two semicolons", "index 0 1;;disk 1;item 5 0 0;", 1, 10);
        wrong("the end for a number", "index 0", 1, 7);
        wrong("the end for a semicolon", "index 0 1 ", 1, 10);
        wrong("the end for a disk", "index 0 1; ", 1, 11);
        wrong("the end for an item", "index 0 1;disk 1;", 1, 17);
        wrong("an item without disks", "index 0 1;item 5 0 0;", 1, 10);
        wrong("a client without items", "index 0 1;disk 1;client 1 lru;", 1, 17);
        wrong("two indexes", "index 0 1;index 0 1;", 1, 10);
        wrong("a disk behind items", RIGHT + "disk 1;", 1, 28);
        wrong("a fifth disk behind items", "index 0 1;" + "disk 1;".repeat(4) + "item 5 0 0;disk 1;", 1, 49);
        wrong("an item behind clients", RIGHT + "client 1 lru;item 5 0 0;", 1, 41);
        wrong("another policy", RIGHT + "client 1 fifo;", 1, 37);
        wrong("no policy", RIGHT + "client 1 ;", 1, 37);
        wrong("two policies", RIGHT + "client 1 lru pix;", 1, 41);
        wrong("a longer policy", RIGHT + "client 1 lrux;", 1, 37);
        wrong("a number for a policy", RIGHT + "client 1 1;", 1, 37);
        wrong("the end for a policy", RIGHT + "client 1", 1, 36);
        wrong("something behind all", RIGHT + " ;", 1, 29);
        wrong("another word behind all", RIGHT + "clients 1 lru;", 1, 28);
        wrong("five digits", "index 00000 1;", 1, 6);
        wrong("many digits", "index " + "9".repeat(100) + " 1;", 1, 6);
        wrong("five digits for a word", "00000", 1, 0);
        wrong("three numbers", "index 0 1;disk 1;item 5 0;", 1, 25);
    }

    private static void wrongNumbers() {
        wrong("M above 8", "index 9 1;", 2, 6);
        wrong("L of 0", "index 0 0;", 2, 8);
        wrong("L above 4", "index 0 5;", 2, 8);
        wrong("F of 0", "index 0 1;disk 0;", 2, 15);
        wrong("F above 6", "index 0 1;disk 7;", 2, 15);
        wrong("P above 99", "index 0 1;disk 1;item 100 0 0;", 2, 22);
        wrong("no such disk", "index 0 1;disk 1;item 5 1 0;", 2, 24);
        wrong("a disk behind the last", "index 0 1;disk 1;disk 1;item 5 2 0;", 2, 31);
        wrong("B above 999", "index 0 1;disk 1;item 5 0 1000;", 2, 26);
        wrong("C above 4", RIGHT + "client 5 lru;", 2, 35);
        wrong("four digits", "index 9999 1;", 2, 6);
    }

    private static void tooMany() {
        wrong("a fifth disk", "index 0 1;" + "disk 1;".repeat(4) + "disk", 3, 38);
        wrong("a fifth disk, wrong behind", "index 0 1;" + "disk 1;".repeat(4) + " disk 9;", 3, 39);
        wrong("a seventeenth item", "index 0 1;disk 1;" + "item 5 0 0;".repeat(16) + "item", 3, 193);
        wrong("a fifth client", RIGHT + "client 1 lru;".repeat(4) + "client 1 lru;", 3, 80);
        wrong("another word for a fifth disk", "index 0 1;" + "disk 1;".repeat(4) + "disks 1;", 1, 38);
        wrong("another word for a fifth client", RIGHT + "client 1 lru;".repeat(4) + "x", 1, 80);
    }

    private static void firstErrorCounts() {
        wrong("a number before a token", "index 9 x", 2, 6);
        wrong("a token before a number", "index x 9", 1, 6);
        wrong("a number before an unknown byte", "index 0 9 !", 2, 8);
        wrong("a fifth disk before an unknown byte", "index 0 1;" + "disk 1;".repeat(5) + "!", 3, 38);
        wrong("a number before a fifth disk", "index 0 1;" + "disk 9;".repeat(5), 2, 15);
    }

    private static void failedLoadChangesNothing() {
        BroadcastCarousel x = Check.with(RIGHT + "client 1 lru;");
        x.request(0, 0);
        x.setPopularity(0, 6);
        Check.put(x, "index 3 4;disk 6;disk 5;item 1 1 1;item 1 1 x");
        check.due("4: load() of a wrong text", -11, x::load);
        check.due("5: errorPosition()", 44, x::errorPosition);
        check.due("4: popularity", 6, () -> x.itemValue(0, 0));
        check.due("4: cycle()", 1, x::cycle);
        check.due("4: cache(0)", 1, () -> x.cache(0));
        check.outOfRange("4: the buffer is empty", () -> x.truncate(1));
        check.due("4: undo()", 1, x::undo);
        check.due("4: undo()", 0, x::undo);
        check.due("5: errorPosition() behind undo()", 44, x::errorPosition);
        check.due("4: load() of nothing", -11, x::load);
        check.due("5: errorPosition()", 0, x::errorPosition);
        Check.put(x, RIGHT);
        check.due("5: append() leaves errorPosition()", 0, x::errorPosition);
        check.due("4: load()", 1, x::load);
        check.due("5: errorPosition() without an error", -1, x::errorPosition);
        BroadcastCarousel y = new BroadcastCarousel();
        check.due("4: load() of nothing", -11, y::load);
        check.noCarousel("4: there is still no carousel", y::cycle);
    }

    private static void loadStartsAnew() {
        String text = "index 0 1;disk 2;disk 1;item 5 0 0;item 6 1 0;client 2 lru;client 2 pix;";
        BroadcastCarousel x = Check.with(text);
        x.request(0, 1);
        x.request(0, 1);
        x.think(1, 9);
        x.setPopularity(0, 1);
        x.moveItem(0, 1);
        Check.put(x, text);
        check.due("4: load()", 2, x::load);
        check.due("4: no action can be undone", -2, x::undo);
        for (int what = 0; what < 5; what++) {
            int property = what;
            check.due("4: clientValue(0, " + what + ")", 0, () -> x.clientValue(0, property));
        }
        check.due("4: time of client 1", 0, () -> x.clientValue(1, 0));
        check.due("4: cache(0)", 0, () -> x.cache(0));
        check.due("4: requests(0, 1)", 0, () -> x.requests(0, 1));
        check.due("4: popularity", 5, () -> x.itemValue(0, 0));
        check.due("4: disk", 0, () -> x.itemValue(0, 1));
        check.due("4: slotAt(1)", 1, () -> x.slotAt(1));
        Check.put(x, "index 0 1;disk 1;item 5 0 0;");
        check.due("4: load() of less", 1, x::load);
        check.outOfRange("4: item 1 is gone", () -> x.itemValue(1, 0));
        check.outOfRange("4: disk 1 is gone", () -> x.frequency(1));
        check.due("4: the clients are gone", 0, x::clientCount);
    }

    private static void loadOfLessIsLikeNew() {
        String small = "index 1 2;disk 2;disk 1;item 5 0 3;item 6 1 0;client 1 lfu;";
        BroadcastCarousel x = Check.with("index 8 4;disk 6;disk 5;disk 4;disk 3;" + "item 0 2 1;".repeat(15)
                + "item 0 3 9;client 4 lru;client 4 pix;client 4 lru;client 4 lru;");
        for (int item = 0; item < 9; item++) {
            x.request(item % 4, item);
        }
        Check.put(x, small);
        check.due("4: load() of less", 2, x::load);
        check.dueText("4: all is as in a new object", Fingerprint.of(Check.with(small)), Fingerprint.of(x));
        for (int t = 0; t < 12; t++) {
            int time = t;
            BroadcastCarousel fresh = Check.with(small);
            check.due("4: nextTime()", fresh.nextTime(0, t), () -> x.nextTime(0, time));
            check.due("4: accessTime()", fresh.accessTime(1, t), () -> x.accessTime(1, time));
        }
        check.due("4: leastWorth()", 0, x::leastWorth);
        check.due("4: emptySlots()", 1, x::emptySlots);
        check.due("4: itemsOf(1)", 2, () -> x.itemsOf(1));
        check.due("4: tierSize(2, 1)", 1, () -> x.tierSize(2, 1));
    }

    private static void right(String what, String text, int items) {
        BroadcastCarousel x = new BroadcastCarousel();
        Check.put(x, text);
        check.due("4: load() of " + what, items, x::load);
        check.due("5: errorPosition() of " + what, -1, x::errorPosition);
    }

    private static void wrong(String what, String text, int code, int position) {
        BroadcastCarousel x = new BroadcastCarousel();
        Check.put(x, text);
        check.due("4: load() of " + what, -10 - code, x::load);
        check.due("5: errorPosition() of " + what, position, x::errorPosition);
        check.noCarousel("4: cycle() behind " + what, x::cycle);
        check.outOfRange("4: the buffer is empty behind " + what, () -> x.truncate(1));
    }
}
