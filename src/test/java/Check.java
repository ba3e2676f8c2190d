/** Counts calls whose answer is not the one that is due; what the tests have in common. */
final class Check {
    interface Whole {
        long answer();
    }

    interface Broken {
        double answer();
    }

    private int seen = 0;
    private int wrong = 0;

    private void count(String call, String got, String want) {
        seen++;
        if (!got.equals(want)) {
            wrong++;
            System.out.println(call + " answered " + got + ", due is " + want);
        }
    }

    void due(String call, long want, Whole whole) {
        count(call, outcome(whole), Long.toString(want));
    }

    void dueDouble(String call, double want, Broken broken) {
        String got;
        try {
            got = Double.toString(broken.answer());
        } catch (RuntimeException e) {
            got = "throws." + e.getClass().getSimpleName();
        }
        count(call, got, Double.toString(want));
    }

    void dueText(String what, String want, String got) {
        count(what, got, want);
    }

    void noCarousel(String call, Whole whole) {
        count(call, outcome(whole), "throws.IllegalStateException");
    }

    void outOfRange(String call, Whole whole) {
        count(call, outcome(whole), "throws.IllegalArgumentException");
    }

    void noSuch(String call, Whole whole) {
        count(call, outcome(whole), "throws.NoSuchElementException");
    }

    static String outcome(Whole whole) {
        try {
            return Long.toString(whole.answer());
        } catch (RuntimeException e) {
            return "throws." + e.getClass().getSimpleName();
        }
    }

    void end() {
        System.out.println(seen + " answers looked at, " + wrong + " not as due");
        if (wrong != 0 || seen == 0) {
            System.exit(1);
        }
    }

    /** Puts a text into the buffer behind what is there, by append() and truncate(). */
    static void put(BroadcastCarousel x, String text) {
        int length = 0;
        for (int from = 0; from < text.length(); from += 20) {
            length = x.append(word(text, from), word(text, from + 4), word(text, from + 8),
                    word(text, from + 12), word(text, from + 16));
        }
        int surplus = (20 - text.length() % 20) % 20;
        x.truncate(length - surplus);
    }

    private static int word(String text, int from) {
        int word = 0;
        for (int n = from; n < from + 4; n++) {
            word = word << 8 | (n < text.length() ? text.charAt(n) & 255 : 0);
        }
        return word;
    }

    /** A new object with a text that must be right. */
    static BroadcastCarousel with(String text) {
        BroadcastCarousel x = new BroadcastCarousel();
        put(x, text);
        int items = x.load();
        if (items < 1) {
            throw new AssertionError("load() answered " + items + " at " + x.errorPosition() + ": " + text);
        }
        return x;
    }
}
