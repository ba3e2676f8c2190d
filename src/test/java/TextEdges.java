/** The edges of part 2 and of promises 1 to 5: the buffer, the text, its errors. */
final class TextEdges {
    private static final String INDEX = "index 0 1;";
    private static final String RIGHT = "index 0 1;disk 1;item 5 0 0;";
    private static final String FULL = "index 8 4;disk 1;disk 2;disk 3;disk 6;" + "item 99 3 999;".repeat(16)
            + "client 0 lru;client 1 lfu;client 3 pix;client 4 lru;";
    private static final int BLANKS = 0x20202020;

    private final Edges e;

    TextEdges(Edges edges) {
        e = edges;
    }

    void look() {
        statements();
        order();
        index();
        disks();
        items();
        clients();
        numbering();
        everyByteBehindAWord();
        everyByteBehindANumber();
        everyByteAtTheEnds();
        tokens();
        blanks();
        leastPosition();
        leastCode();
        positions();
        wrongTokens();
        everyLetter();
        endOfText();
        wrongNumbers();
        tooMany();
        newObject();
        appending();
        truncating();
        loading();
        loadingAnew();
        errorPositions();
    }

    // ---- part 2

    private void statements() {
        e.part(2, "Each statement is a keyword followed by what is listed here and a semicolon.");
        e.loads(RIGHT, 1);
        // One thing less, then one more, then no semicolon, in each kind of statement.
        e.wrong("index 0;disk 1;item 5 0 0;", 1, 7);
        e.wrong("index 0 1 1;disk 1;item 5 0 0;", 1, 10);
        e.wrong("index 0 1 disk 1;item 5 0 0;", 1, 10);
        e.wrong(INDEX + "disk;item 5 0 0;", 1, 14);
        e.wrong(INDEX + "disk 1 1;item 5 0 0;", 1, 17);
        e.wrong(INDEX + "disk 1 item 5 0 0;", 1, 17);
        e.wrong(INDEX + "disk 1;item 5 0;", 1, 25);
        e.wrong(INDEX + "disk 1;item 5 0 0 0;", 1, 28);
        e.wrong(INDEX + "disk 1;item 5 0 0 item 5 0 0;", 1, 28);
        e.wrong(RIGHT + "client lru;", 1, 35);
        e.wrong(RIGHT + "client 1;", 1, 36);
        e.wrong(RIGHT + "client 1 1 lru;", 1, 37);
        e.wrong(RIGHT + "client 1 lru 1;", 1, 41);
        e.wrong(RIGHT + "client 1 lru client 1 lru;", 1, 41);
        e.wrong(INDEX + ";disk 1;item 5 0 0;", 1, 10);
        e.wrong(RIGHT + ";", 1, 28);
    }

    private void order() {
        e.part(2, "The statements are, in this order:");
        e.wrong("disk 1;index 0 1;item 5 0 0;", 1, 0);
        e.wrong("item 5 0 0;", 1, 0);
        e.wrong("client 1 lru;", 1, 0);
        e.wrong(INDEX + INDEX, 1, 10);
        e.wrong(INDEX + "item 5 0 0;disk 1;", 1, 10);
        e.wrong(INDEX + "client 1 lru;disk 1;item 5 0 0;", 1, 10);
        e.wrong(INDEX + "disk 1;" + INDEX, 1, 17);
        e.wrong(INDEX + "disk 1;client 1 lru;item 5 0 0;", 1, 17);
        e.wrong(RIGHT + INDEX, 1, 28);
        e.wrong(RIGHT + "disk 1;", 1, 28);
        e.wrong(RIGHT + "item 5 0 0;disk 1;", 1, 39);
        e.wrong(RIGHT + "client 1 lru;" + INDEX, 1, 41);
        e.wrong(RIGHT + "client 1 lru;disk 1;", 1, 41);
        e.wrong(RIGHT + "client 1 lru;item 5 0 0;", 1, 41);
    }

    private void index() {
        e.part(2, "number M of index segments (0 to 8), length L of a segment (1 to 4)");
        for (int segments = 0; segments <= 8; segments++) {
            for (int length = 1; length <= 4; length++) {
                BroadcastCarousel x = e.loads("index " + segments + " " + length + ";disk 1;item 5 0 0;", 1);
                e.due(x, "cycle()", 1 + segments * length);
            }
        }
        e.wrong("index 9 1;disk 1;item 5 0 0;", 2, 6);
        e.wrong("index 0 0;disk 1;item 5 0 0;", 2, 8);
        e.wrong("index 0 5;disk 1;item 5 0 0;", 2, 8);
        e.wrong("index 8 0;disk 1;item 5 0 0;", 2, 8);
    }

    private void disks() {
        e.part(2, "1 to 4 statements: frequency F (1 to 6)");
        e.wrong(INDEX + "item 5 0 0;", 1, 10);
        for (int count = 1; count <= 4; count++) {
            BroadcastCarousel x = e.loads(INDEX + "disk 1;".repeat(count) + "item 5 0 0;", 1);
            e.due(x, "frequency(" + (count - 1) + ")", 1);
            e.outOfRange(x, "frequency(" + count + ")");
        }
        e.wrong(INDEX + "disk 1;".repeat(5) + "item 5 0 0;", 3, 38);
        e.wrong(INDEX + "disk 0;item 5 0 0;", 2, 15);
        for (int frequency = 1; frequency <= 6; frequency++) {
            e.due(e.loads(INDEX + "disk " + frequency + ";item 5 0 0;", 1), "frequency(0)", frequency);
        }
        e.wrong(INDEX + "disk 7;item 5 0 0;", 2, 15);
    }

    private void items() {
        e.part(2, "1 to 16 statements: popularity P (0 to 99), number D of a disk, bound B (0 to 999; 0 means that there is none)");
        e.wrong(INDEX + "disk 1;", 1, 17);
        e.wrong(INDEX + "disk 1;client 0 lru;", 1, 17);
        for (int count = 1; count <= 16; count++) {
            BroadcastCarousel x = e.loads(INDEX + "disk 1;" + "item 5 0 0;".repeat(count), count);
            e.due(x, "occurrences(" + (count - 1) + ")", 1);
            e.outOfRange(x, "occurrences(" + count + ")");
        }
        e.wrong(INDEX + "disk 1;" + "item 5 0 0;".repeat(17), 3, 17 + 16 * 11);
        e.due(e.loads(INDEX + "disk 1;item 0 0 0;", 1), "itemValue(0, 0)", 0);
        e.due(e.loads(INDEX + "disk 1;item 99 0 0;", 1), "itemValue(0, 0)", 99);
        e.wrong(INDEX + "disk 1;item 100 0 0;", 2, 22);
        for (int count = 1; count <= 4; count++) {
            String text = INDEX + "disk 1;".repeat(count) + "item 5 ";
            e.due(e.loads(text + "0 0;", 1), "itemValue(0, 1)", 0);
            e.due(e.loads(text + (count - 1) + " 0;", 1), "itemValue(0, 1)", count - 1);
            e.wrong(text + count + " 0;", 2, text.length());
        }
        e.due(e.loads(INDEX + "disk 1;item 5 0 0;", 1), "itemValue(0, 2)", 0);
        e.due(e.loads(INDEX + "disk 1;item 5 0 999;", 1), "itemValue(0, 2)", 999);
        e.wrong(INDEX + "disk 1;item 5 0 1000;", 2, 26);
        // Two slots apart: a bound of 1 is violated, one of 0 is none.
        e.due(e.loads(INDEX + "disk 1;item 5 0 0;item 5 0 1;", 2), "violations()", 2);
    }

    private void clients() {
        e.part(2, "any number up to 4: capacity C (0 to 4), and the word lru, lfu or pix");
        for (int count = 0; count <= 4; count++) {
            e.due(e.loads(RIGHT + "client 0 lru;".repeat(count), 1), "clientCount()", count);
        }
        e.wrong(RIGHT + "client 0 lru;".repeat(5), 3, 28 + 4 * 13);
        for (int capacity = 0; capacity <= 4; capacity++) {
            e.due(e.loads(RIGHT + "client " + capacity + " lru;", 1), "clientValue(0, 5)", capacity);
        }
        e.wrong(RIGHT + "client 5 lru;", 2, 35);
        for (String policy : new String[] {"lru", "lfu", "pix"}) {
            e.loads(RIGHT + "client 1 " + policy + ";", 1);
        }
        for (String policy : new String[] {"lr", "lruu", "lrulfu", "lfr", "pi", "pixx", "fifo", "LRU", "1", ";"}) {
            e.wrong(RIGHT + "client 1 " + policy + ";", 1, 37);
        }
    }

    private void numbering() {
        e.part(2, "Disks, items and clients are numbered from 0 in the order of the text.");
        BroadcastCarousel x = e.loads(INDEX + "disk 4;disk 2;disk 6;disk 3;item 7 1 1;item 8 0 2;item 9 3 3;"
                + "client 3 lru;client 1 lfu;client 2 pix;client 4 lru;", 3);
        int[] frequencies = {4, 2, 6, 3};
        int[] capacities = {3, 1, 2, 4};
        for (int n = 0; n < 4; n++) {
            e.due(x, "frequency(" + n + ")", frequencies[n]);
            e.due(x, "clientValue(" + n + ", 5)", capacities[n]);
        }
        int[] disks = {1, 0, 3};
        for (int n = 0; n < 3; n++) {
            e.due(x, "itemValue(" + n + ", 0)", 7 + n);
            e.due(x, "itemValue(" + n + ", 1)", disks[n]);
            e.due(x, "itemValue(" + n + ", 2)", 1 + n);
        }
    }

    private void everyByteBehindAWord() {
        e.part(2, "A token is a word (lower-case letters, as many as follow one another), a number (digits, as many as follow one another, at most four), or a semicolon.");
        for (int sign = 0; sign < 256; sign++) {
            String text = INDEX + "disk" + (char) sign + "1;item 5 0 0;";
            if (sign == 32 || sign == 10 || sign == '0') {
                e.loads(text, 1);
            } else if (sign >= 'a' && sign <= 'z') {
                e.wrong(text, 1, 10);
            } else if (sign >= '1' && sign <= '9') {
                e.wrong(text, 2, 14);
            } else {
                e.wrong(text, 1, 14);
            }
        }
    }

    private void everyByteBehindANumber() {
        e.part(2, "also a byte that begins no token");
        for (int sign = 0; sign < 256; sign++) {
            String text = INDEX + "disk 0" + (char) sign + ";item 5 0 0;";
            if (sign >= '1' && sign <= '6') {
                e.loads(text, 1);
            } else {
                // 0, and 00, 07, 08, 09: a number out of its range, before whatever follows.
                e.wrong(text, 2, 15);
            }
            String behind = INDEX + "disk 1" + (char) sign + ";item 5 0 0;";
            if (sign == 32 || sign == 10) {
                e.loads(behind, 1);
            } else if (sign >= '0' && sign <= '9') {
                e.wrong(behind, 2, 15);
            } else {
                e.wrong(behind, 1, sign == ';' ? 17 : 16);
            }
        }
    }

    private void everyByteAtTheEnds() {
        e.part(2, "Blanks (byte 32) and line feeds (byte 10) may stand before, between and behind tokens.");
        for (int sign = 0; sign < 256; sign++) {
            boolean blank = sign == 32 || sign == 10;
            if (blank) {
                e.loads((char) sign + RIGHT, 1);
                e.loads(RIGHT + (char) sign, 1);
                e.loads(INDEX + (char) sign + RIGHT.substring(10), 1);
            } else {
                e.wrong((char) sign + RIGHT, 1, 0);
                e.wrong(RIGHT + (char) sign, 1, 28);
                e.wrong(INDEX + (char) sign + RIGHT.substring(10), 1, 10);
            }
        }
    }

    private void tokens() {
        e.part(2, "a number (digits, as many as follow one another, at most four)");
        e.loads("index 0000 0001;disk 0006;item 0099 0000 0999;client 0004 lru;", 1);
        e.wrong("index 00000 1;", 1, 6);
        e.wrong("index 0 00001;", 1, 8);
        e.wrong("index 0 1;disk 00001;", 1, 15);
        e.wrong("index 0 1;disk 1;item 00005 0 0;", 1, 22);
        e.wrong("index 0 1;disk 1;item 5 00000 0;", 1, 24);
        e.wrong("index 0 1;disk 1;item 5 0 00000;", 1, 26);
        e.wrong(RIGHT + "client 00000 lru;", 1, 35);
        e.wrong("index 9999 1;", 2, 6);
        e.part(2, "as many as follow one another");
        e.loads("index0 1;disk1;item5 0 0;client1lru;client1lfu;", 1);
        e.wrong("in dex 0 1;", 1, 0);
        e.wrong("indexdisk 0 1;", 1, 0);
        e.wrong("index 0 1;disks 1;", 1, 10);
        e.wrong("index 01;", 1, 8);
        e.wrong("index 0 1;disk 1;item 500;", 2, 22);
    }

    private void blanks() {
        e.part(2, "Blanks (byte 32) and line feeds (byte 10) may stand before, between and behind tokens.");
        String[] tokens = {"index", "0", "1", ";", "disk", "1", ";", "item", "5", "0", "0", ";", "client", "1", "pix", ";"};
        e.loads(" " + String.join(" ", tokens) + " ", 1);
        e.loads("\n" + String.join("\n", tokens) + "\n", 1);
        e.loads(" \n\n " + String.join("  \n \n", tokens) + "\n  \n", 1);
        e.loads("\n" + " ".repeat(400) + RIGHT + " ".repeat(71), 1);
    }

    private void leastPosition() {
        e.part(2, "The error with the least position counts; of several errors at one position, the one with the least code.");
        e.wrong("index 9 x", 2, 6);
        e.wrong("index x 9", 1, 6);
        e.wrong("index 9 0;", 2, 6);
        e.wrong("index 0 9!", 2, 8);
        e.wrong("index 0!9", 1, 7);
        e.wrong(INDEX + "disk 9;".repeat(5), 2, 15);
        e.wrong(INDEX + "disk 1;".repeat(5) + "!", 3, 38);
        e.wrong(INDEX + "disk 1;".repeat(4) + "!" + "disk 1;", 1, 38);
        e.wrong(RIGHT + "client 5 xxx;", 2, 35);
        e.wrong(RIGHT + "client 4 xxx;client 5 lru;", 1, 37);
        e.wrong(INDEX + "disk 1;item 100 9 1000;", 2, 22);
        e.wrong(INDEX + "disk 1;item 99 9 1000;", 2, 25);
        e.wrong(INDEX + "disk 1;item 99 0 1000", 2, 27);
    }

    private void leastCode() {
        e.part(2, "of several errors at one position, the one with the least code.");
        // Five digits are no token (1), whatever number they would be (2).
        e.wrong("index 99999 1;", 1, 6);
        e.wrong("index 00009 1;", 1, 6);
        // The keyword of a fifth disk (3), where no disk can stand (1); the others alike.
        e.wrong(INDEX + "disk 1;".repeat(4) + "item 5 0 0;disk 1;", 1, 49);
        e.wrong(INDEX + "disk 1;" + "item 5 0 0;".repeat(16) + "client 1 lru;item 5 0 0;", 1, 206);
    }

    private void positions() {
        e.part(2, "Positions are byte positions from 0.");
        e.wrong("!", 1, 0);
        e.wrong(" !", 1, 1);
        e.wrong("\n\n!", 1, 2);
        e.wrong(" ".repeat(499) + "!", 1, 499);
        e.wrong(RIGHT + " ".repeat(471) + "x", 1, 499);
        e.wrong((char) 233 + RIGHT, 1, 0);
        e.wrong(" " + (char) 255, 1, 1);
    }

    private void wrongTokens() {
        e.part(2, "1: a token that cannot stand there, at its first byte; also a byte that begins no token, and a number of five or more digits.");
        String[] right = {"index", "0", "1", ";", "disk", "1", ";", "item", "5", "0", "0", ";", "client", "1", "pix", ";"};
        String[] others = {"index", "disk", "item", "client", "lru", "q", "1", ";", "!", "00000"};
        for (int n = 0; n < right.length; n++) {
            for (String other : others) {
                boolean fits = other.equals(right[n]) || right[n].equals("pix") && other.equals("lru")
                        || other.equals("1") && right[n].matches("\\d");
                // Another disk or item may stand where the next kind of statement begins.
                boolean more = n == 7 && other.equals("disk") || n == 12 && other.equals("item");
                if (!fits && !more) {
                    String before = joined(right, n);
                    e.wrong(before + " " + other + " ", 1, before.length() + 1);
                }
            }
        }
        String all = joined(right, right.length);
        for (String other : new String[] {"index", "disk", "item", "lru", "q", "1", ";", "!", "00000"}) {
            e.wrong(all + "  " + other, 1, all.length() + 2);
        }
    }

    private void everyLetter() {
        e.part(2, "1: a token that cannot stand there, at its first byte");
        String[] right = {"index", "0", "1", ";", "disk", "1", ";", "item", "5", "0", "0", ";", "client", "1", "lru", ";",
            "client", "1", "lfu", ";", "client", "1", "pix", ";"};
        e.loads(joined(right, right.length), 1);
        for (int n = 0; n < right.length; n++) {
            for (int letter = 0; letter < right[n].length() && Character.isLetter(right[n].charAt(0)); letter++) {
                String[] tokens = right.clone();
                tokens[n] = right[n].substring(0, letter) + "q" + right[n].substring(letter + 1);
                int position = joined(right, n).length() + (n > 0 ? 1 : 0);
                e.wrong(joined(tokens, tokens.length), 1, position);
                tokens[n] = right[n].substring(0, letter) + right[n].substring(letter + 1);
                e.wrong(joined(tokens, tokens.length), 1, position);
            }
        }
    }

    private static String joined(String[] tokens, int count) {
        return String.join(" ", java.util.Arrays.copyOf(tokens, count));
    }

    private void endOfText() {
        e.part(2, "At the end of the text the position is the length of the text.");
        e.wrong("", 1, 0);
        e.wrong(" ", 1, 1);
        e.wrong(" ".repeat(500), 1, 500);
        String text = "index 0 1 ; disk 2 ;item 50 0 10;client 1 lfu ;";
        int word = -1;
        boolean whole = false;
        for (int length = 0; length < text.length(); length++) {
            // A word cut short is a wrong token at its first byte; all else ends too early.
            boolean letter = length > 0 && Character.isLetter(text.charAt(length - 1));
            if (letter && (word < 0 || !Character.isLetter(text.charAt(length - 2)))) {
                word = length - 1;
            }
            boolean cut = letter && Character.isLetter(text.charAt(length));
            whole = length > 0 && text.charAt(length - 1) == ';' && length > 20;
            if (whole) {
                e.loads(text.substring(0, length), 1);
            } else {
                e.wrong(text.substring(0, length), 1, cut ? word : length);
            }
            if (!whole && !cut) {
                e.wrong(text.substring(0, length) + "  ", 1, length + 2);
            }
        }
        String padded = " ".repeat(500 - 27) + RIGHT.substring(0, 27);
        e.wrong(padded, 1, 500);
    }

    private void wrongNumbers() {
        e.part(2, "2: a number out of its range, or the number of a disk that does not exist, at its first byte.");
        e.wrong("index   0009 1;", 2, 8);
        e.wrong("index 8\n\n5;", 2, 9);
        e.wrong("index 9999 1;", 2, 6);
        e.wrong(INDEX + "disk 1;disk 1;item 5 2 0;", 2, 31);
        e.wrong(INDEX + "disk 1;disk 1;item 5  0002 0;", 2, 32);
        e.wrong(INDEX + "disk 1;item 5 1 0;", 2, 24);
        e.loads(INDEX + "disk 1;disk 1;item 5 1 0;", 1);
        e.wrong(INDEX + "disk 1;item 5 0 0;item 5 1 0;", 2, 35);
        e.wrong(INDEX + "disk 1;disk 1;disk 1;disk 1;item 5 4 0;", 2, 45);
    }

    private void tooMany() {
        e.part(2, "3: the keyword of a fifth disk, a seventeenth item or a fifth client.");
        String disks = INDEX + "disk 1;".repeat(4);
        e.loads(disks + "item 5 0 0;", 1);
        e.wrong(disks + "disk", 3, 38);
        e.wrong(disks + "  disk 9;", 3, 40);
        e.wrong(disks + "disks 1;", 1, 38);
        String items = INDEX + "disk 1;" + "item 5 0 0;".repeat(16);
        e.loads(items, 16);
        e.wrong(items + "item", 3, 193);
        e.wrong(items + "\nitem 100 9 0;", 3, 194);
        e.wrong(items + "items", 1, 193);
        String clients = RIGHT + "client 1 lru;".repeat(4);
        e.loads(clients, 1);
        e.wrong(clients + "client", 3, 80);
        e.wrong(clients + " client 9 x;", 3, 81);
        e.wrong(clients + "clients", 1, 80);
        e.loads(FULL, 16);
        e.wrong(FULL + "client 4 lru;", 3, FULL.length());
    }

    // ---- promises 1 to 5

    private void newObject() {
        e.promise(1, "Creates a scheduler without a carousel and with an empty text buffer.");
        BroadcastCarousel x = new BroadcastCarousel();
        e.noCarousel(x, "cycle()");
        e.noCarousel(x, "undo()");
        e.outOfRange(x, "truncate(1)");
        e.due(x, "truncate(0)", 0);
        e.due(x, "load()", -11);
        e.due(x, "errorPosition()", 0);
        e.due(new BroadcastCarousel(), "append(0, 0, 0, 0, 0)", 20);
    }

    private void appending() {
        e.promise(2, "Appends twenty bytes to the text buffer: the four bytes of each argument in order, the most significant byte first.");
        String[] names = {"`a`: bytes 0 to 3", "`b`: bytes 4 to 7", "`c`: bytes 8 to 11", "`d`: bytes 12 to 15",
            "`e`: bytes 16 to 19"};
        eachByte(0, 20);
        for (int n = 0; n < 5; n++) {
            e.promise(2, names[n]);
            eachByte(4 * n, 4 * n + 4);
        }
        e.promise(2, "This method needs no carousel.");
        e.due(new BroadcastCarousel(), "append(0, 0, 0, 0, 0)", 20);
        e.due(Check.with(RIGHT), "append(0, 0, 0, 0, 0)", 20);
        e.promise(2, "Returns the new length of the buffer.");
        BroadcastCarousel x = new BroadcastCarousel();
        for (int length = 20; length <= 500; length += 20) {
            e.due(x, "append(0, 0, 0, 0, 0)", length);
        }
        e.promise(2, "Throws `IllegalStateException` if the length would be above 500 (then nothing is appended)");
        for (int length = 480; length <= 500; length++) {
            Scene scene = new Scene(RIGHT, "", "", RIGHT + " ".repeat(length - 28));
            if (length == 480) {
                e.due(scene.make(), "append(0, 0, 0, 0, 0)", 500);
            } else {
                e.refused(scene, "append(-1, -1, -1, -1, -1)", "throws.IllegalStateException");
            }
        }
        e.refused(new Scene("", "", "", " ".repeat(500)), "append(-1, -1, -1, -1, -1)", "throws.IllegalStateException");
    }

    /** A byte that begins no token among blanks is found where it stands. */
    private void eachByte(int from, int to) {
        for (int place = from; place < to; place++) {
            BroadcastCarousel x = new BroadcastCarousel();
            StringBuilder words = new StringBuilder();
            for (int word = 0; word < 5; word++) {
                int shift = 24 - 8 * (place % 4);
                int bytes = word == place / 4 ? BLANKS & ~(255 << shift) | 200 << shift : BLANKS;
                words.append(word == 0 ? "" : ", ").append(bytes);
            }
            e.due(x, "append(" + words + ")", 20);
            e.due(x, "load()", -11);
            e.due(x, "errorPosition()", place);
        }
    }

    private void truncating() {
        e.promise(3, "Truncates the text buffer to its first bytes.");
        for (int length = 0; length <= 28; length++) {
            BroadcastCarousel x = new Scene("", "", "", " ".repeat(10) + "!" + " ".repeat(17)).make();
            e.due(x, "truncate(" + length + ")", length);
            e.due(x, "load()", -11);
            e.due(x, "errorPosition()", Math.min(length, 10));
        }
        BroadcastCarousel y = new Scene("", "", "", RIGHT + "!!").make();
        e.due(y, "truncate(29)", 29);
        e.due(y, "truncate(28)", 28);
        e.due(y, "load()", 1);
        // What is cut off does not come back.
        BroadcastCarousel z = new Scene("", "", "", RIGHT).make();
        e.due(z, "truncate(10)", 10);
        e.outOfRange(z, "truncate(28)");
        Check.put(z, "disk 1;item 7 0 0;");
        e.due(z, "load()", 1);
        e.due(z, "itemValue(0, 0)", 7);
        e.promise(3, "This method needs no carousel.");
        e.due(new BroadcastCarousel(), "truncate(0)", 0);
        e.promise(3, "`length`: the new length");
        e.due(new Scene("", "", "", " ".repeat(500)).make(), "truncate(500)", 500);
        e.due(new Scene("", "", "", " ".repeat(500)).make(), "truncate(0)", 0);
        e.promise(3, "Throws `IllegalArgumentException` if length is negative or greater than the present length");
        for (int length : new int[] {0, 1, 20, 28, 499, 500}) {
            Scene scene = new Scene(RIGHT, "setBound(0, 3)", "x", (RIGHT + " ".repeat(500)).substring(0, length));
            e.due(scene.make(), "truncate(0)", 0);
            e.due(scene.make(), "truncate(" + length + ")", length);
            e.refused(scene, "truncate(-1)");
            e.refused(scene, "truncate(" + (length + 1) + ")");
            e.refused(scene, "truncate(MIN)");
            e.refused(scene, "truncate(MAX)");
        }
        e.refused(Scene.of("", ""), "truncate(1)");
    }

    private void loading() {
        e.promise(4, "Returns the number of items; -10 minus the error code if the text is wrong.");
        for (int items = 1; items <= 16; items++) {
            e.loads(INDEX + "disk 1;" + "item 5 0 0;".repeat(items), items);
        }
        String[] wrong = {"index 0 1", "index 9 1;", INDEX + "disk 1;".repeat(5)};
        int[] positions = {9, 6, 38};
        for (int code = 1; code <= 3; code++) {
            e.wrong(wrong[code - 1], code, positions[code - 1]);
        }
        e.promise(4, "The buffer is empty afterwards in every case.");
        for (String text : new String[] {RIGHT, FULL, "", "!", wrong[0], wrong[1], wrong[2], " ".repeat(500)}) {
            BroadcastCarousel x = new Scene("", "", "", text).make();
            Calls.make(x, "load()");
            e.outOfRange(x, "truncate(1)");
            e.due(x, "load()", -11);
            e.due(x, "errorPosition()", 0);
            e.due(x, "append(0, 0, 0, 0, 0)", 20);
        }
        e.promise(4, "Parses the text buffer as a carousel text.");
        e.due(new Scene(RIGHT, "", "", "").make(), "load()", -11);
        e.due(new Scene(RIGHT, "", "", RIGHT).make(), "load()", 1);
        e.promise(4, "This method needs no carousel.");
        e.due(new BroadcastCarousel(), "load()", -11);
        e.part(8, "except that load() always empties the text buffer");
        String busy = "request(0, 0); think(1, 9); setPopularity(0, 9); moveItem(0, 1); request(1, 0)";
        String two = INDEX + "disk 1;disk 2;item 5 0 0;item 6 1 0;client 1 lru;client 2 pix;";
        for (int code = 1; code <= 3; code++) {
            int error = code;
            String text = wrong[code - 1];
            Scene scene = new Scene(two, busy, "", text);
            e.due(scene.make(), "load()", -10 - code);
            // As if that text had been loaded before, and nothing were in the buffer.
            e.alike("a wrong text of code " + error, new Scene(two, busy, text, ""), x -> { },
                    x -> { Check.put(x, text); x.load(); });
        }
    }

    private void loadingAnew() {
        String two = INDEX + "disk 1;disk 2;item 5 0 0;item 6 1 0;client 1 lru;client 2 lfu;";
        String busy = "request(0, 0); request(0, 1); request(1, 1); request(1, 1); think(1, 9); setPopularity(0, 9);"
                + "setBound(1, 1); moveItem(0, 1); setFrequency(0, 5); setIndex(3, 2); repair(); applyTiers(2)";
        e.promise(4, "If it is correct, it replaces the current one; everything is as described with the words \"at first\", and no action can be undone.");
        BroadcastCarousel x = new Scene(two, busy, "", two).make();
        e.due(x, "load()", 2);
        e.due(x, "undo()", -2);
        e.due(x, "clientValue(1, 0)", 0);
        e.due(x, "cache(1)", 0);
        e.due(x, "requests(1, 1)", 0);
        for (String next : new String[] {two, RIGHT, FULL}) {
            // Whether a carousel was there before or not, the next one is the same.
            e.alike("load() of " + next, Scene.of("", ""), y -> { Check.put(y, next); y.load(); },
                    y -> { Check.put(y, two); y.load(); Calls.make(y, busy); Check.put(y, next); y.load(); });
        }
    }

    private void errorPositions() {
        e.promise(5, "Returns the position; NONE if load() was never called or the latest call found no error.");
        BroadcastCarousel x = new BroadcastCarousel();
        e.due(x, "errorPosition()", BroadcastCarousel.NONE);
        Check.put(x, "index 9 1;");
        e.due(x, "errorPosition()", BroadcastCarousel.NONE);
        Calls.make(x, "load()");
        e.due(x, "errorPosition()", 6);
        Check.put(x, RIGHT);
        Calls.make(x, "truncate(28)");
        e.due(x, "errorPosition()", 6);
        Calls.make(x, "load()");
        e.due(x, "errorPosition()", BroadcastCarousel.NONE);
        e.promise(5, "Returns the position of the error found by the latest call of load().");
        Check.put(x, "index 0 0;");
        Calls.make(x, "load()");
        e.due(x, "errorPosition()", 8);
        Calls.make(x, "load()");
        e.due(x, "errorPosition()", 0);
        Calls.make(x, "setBound(0, 5); undo()");
        e.due(x, "errorPosition()", 0);
        e.promise(5, "This method needs no carousel.");
        e.due(new BroadcastCarousel(), "errorPosition()", -1);
        e.part(8, "`NONE = -1`: Returned by errorPosition() if there is no error.");
        e.due(new BroadcastCarousel(), "errorPosition()", -1);
        e.due(e.loads(RIGHT, 1), "errorPosition()", BroadcastCarousel.NONE);
    }
}
