import java.util.ArrayList;
import java.util.List;

/**
 * The ranges of all arguments (promises 6 to 49, part 8): each method answers at their ends, and is
 * refused one step beyond and without a carousel; a refused call and a question change nothing.
 */
final class RefusedEdges {
    /** An argument: its words in the document, and its range in the scenes below. */
    private record Argument(String words, int low, int high) {
    }

    private record Face(int promise, String name, boolean changes, List<Argument> arguments) {
        String call(int place, String value) {
            List<String> values = new ArrayList<>();
            for (int n = 0; n < arguments.size(); n++) {
                values.add(n == place ? value : Integer.toString(arguments.get(n).low));
            }
            return name + "(" + String.join(", ", values) + ")";
        }

        String callWithAll(String value) {
            return name + "(" + String.join(", ", java.util.Collections.nCopies(arguments.size(), value)) + ")";
        }
    }

    private static final String TEXT = "index 1 2;disk 1;disk 3;disk 2;"
            + "item 5 0 4;item 9 1 0;item 3 0 5;item 7 2 0;item 1 1 9;client 1 lru;client 2 pix;client 3 lfu;";
    private static final String BUSY = "request(0, 1); request(2, 1); request(2, 2); request(1, 3); think(1, 7);"
            + "setPopularity(2, 8); setBound(4, 3); setFrequency(2, 4); setIndex(2, 1); moveItem(0, 2);"
            + "request(2, 4); repair(); request(1, 0); undo()";

    private static final Scene NEW = Scene.of("", "");
    private static final Scene FAILED = new Scene("", "", "index 0 9;", TEXT);
    private static final Scene FRESH = Scene.of(TEXT, "request(0, 1)");
    private static final Scene WORN = new Scene(TEXT, BUSY, "index 1 1;disk 7;", "index 3 1;disk 2;item 1 0 0;");

    private static final Argument CLIENT = new Argument("`client`: number of a client", 0, 2);
    private static final Argument ITEM = new Argument("`item`: number of an item", 0, 4);
    private static final Argument DISK = new Argument("`disk`: number of a disk", 0, 2);
    private static final Argument FACTOR = new Argument("`factor`: 0 to 99", 0, 99);
    private static final Argument SET = new Argument("`set`: a set of items, not empty", 1, 31);
    private static final Argument FEW = new Argument("`set`: a set of 1 to 5 items", 1, 31);
    private static final Argument PLACE = new Argument("`place`: 0 for the first one", 0, Integer.MAX_VALUE);

    private final Edges e;
    private final List<Face> faces = new ArrayList<>();

    RefusedEdges(Edges edges) {
        e = edges;
        actions();
        questions();
        questionsAboutClients();
    }

    private static Argument to(String words, int low, int high) {
        return new Argument(words, low, high);
    }

    private void action(int promise, String name, Argument... arguments) {
        faces.add(new Face(promise, name, true, List.of(arguments)));
    }

    private void question(int promise, String name, Argument... arguments) {
        faces.add(new Face(promise, name, false, List.of(arguments)));
    }

    private void actions() {
        action(6, "request", CLIENT, ITEM);
        action(7, "think", CLIENT, to("`slots`: 1 to 9999", 1, 9999));
        action(8, "setPopularity", ITEM, to("`popularity`: 0 to 99", 0, 99));
        action(9, "setBound", ITEM, to("`bound`: 0 to 999", 0, 999));
        action(10, "setFrequency", DISK, to("`frequency`: 1 to 6", 1, 6));
        action(11, "setIndex", to("`segments`: 0 to 8", 0, 8), to("`length`: 1 to 4", 1, 4));
        action(12, "moveItem", ITEM, to("`disk`: number of a disk, possibly its own one", 0, 2));
        action(13, "repair");
        action(14, "applyTiers", to("`k`: 1 to the number of disks", 1, 3));
        action(49, "undo");
    }

    private void questions() {
        Argument time = to("`time`: 0 to 999999", 0, 999999);
        Argument begin = to("`time`: 0 to 999999, when the waiting begins", 0, 999999);
        Argument tiers = to("`k`: number of tiers, 1 to the number of disks", 1, 3);
        question(15, "itemValue", ITEM, to("`what`: 0: popularity; 1: disk; 2: bound", 0, 2));
        question(16, "frequency", DISK);
        question(17, "itemsOf", DISK);
        question(18, "cycle");
        question(19, "slotAt", time);
        question(20, "occurrences", ITEM);
        question(21, "emptySlots");
        question(22, "gap", ITEM);
        question(23, "violations");
        question(24, "nextTime", ITEM, time);
        question(25, "share", ITEM);
        question(26, "accessTime", ITEM, begin);
        question(27, "tuningTime", ITEM, begin);
        question(28, "worstAccess", ITEM);
        question(29, "weight", FACTOR);
        question(30, "meanAccess", ITEM);
        question(31, "bestSegments", FACTOR);
        question(32, "worstTime", SET);
        question(33, "leastWorth");
        question(34, "itemRank", PLACE);
        question(35, "diskRank", PLACE);
        // The tier hangs on k, which is 1 while it is looked at.
        question(36, "tierSize", tiers, to("`tier`: 0 to k - 1", 0, 0));
        question(37, "tierWeight", tiers);
        question(38, "afterRepair");
        question(39, "bestDisk", ITEM);
    }

    private void questionsAboutClients() {
        String what = "`what`: 0: time; 1: hits; 2: misses; 3: sum of all access times; "
                + "4: sum of the tuning times of all misses; 5: capacity";
        question(40, "clientCount");
        question(41, "clientValue", CLIENT, to(what, 0, 5));
        question(42, "cache", CLIENT);
        question(43, "requests", CLIENT, ITEM);
        question(44, "victim", CLIENT, ITEM);
        question(45, "soonest", CLIENT, SET);
        question(46, "hint", CLIENT);
        question(47, "planTime", CLIENT, FEW);
        question(48, "planItem", CLIENT, FEW, PLACE);
    }

    void look() {
        for (Face face : faces) {
            withoutCarousel(face);
            for (int place = 0; place < face.arguments.size(); place++) {
                argument(face, place);
            }
            severalOutOfRange(face);
            questionsChangeNothing(face);
        }
        everyMethod();
        whatDoesNotExist();
        ranks();
        tiersAndTheirNumber();
        sets();
    }

    private void withoutCarousel(Face face) {
        e.promise(face.promise, "Throws `IllegalStateException` if there is no carousel");
        for (String value : new String[] {"0", "1", "-1", "MIN", "MAX"}) {
            e.refused(NEW, face.callWithAll(value), "throws.IllegalStateException");
            e.refused(FAILED, face.callWithAll(value), "throws.IllegalStateException");
        }
    }

    private boolean ranks(Face face) {
        return face.name.endsWith("Rank");
    }

    private void argument(Face face, int place) {
        Argument argument = face.arguments.get(place);
        e.promise(face.promise, argument.words);
        e.answers(FRESH.make(), face.call(place, Integer.toString(argument.low)));
        if (!ranks(face)) {
            e.answers(FRESH.make(), face.call(place, Integer.toString(argument.high)));
        }
        e.promise(face.promise, ranks(face) ? "Throws `IllegalArgumentException` if place is negative"
                : "Throws `IllegalArgumentException` if an argument is out of its range");
        for (Scene scene : new Scene[] {FRESH, WORN}) {
            e.refused(scene, face.call(place, Integer.toString(argument.low - 1)));
            e.refused(scene, face.call(place, "MIN"));
            if (argument.high < Integer.MAX_VALUE) {
                e.refused(scene, face.call(place, Integer.toString(argument.high + 1)));
                e.refused(scene, face.call(place, "MAX"));
            }
        }
    }

    private void severalOutOfRange(Face face) {
        if (!face.arguments.isEmpty()) {
            e.refused(FRESH, face.callWithAll("-1"));
            e.refused(WORN, face.callWithAll("MIN"));
        }
    }

    private void questionsChangeNothing(Face face) {
        if (face.changes) {
            return;
        }
        e.part(8, "All methods except the actions, append(), truncate(), load() and undo() change nothing.");
        for (Scene scene : new Scene[] {FRESH, WORN}) {
            e.changesNothing(scene, face.call(-1, ""));
            e.changesNothing(scene, face.callWithAll("1"));
            for (int place = 0; place < face.arguments.size(); place++) {
                e.changesNothing(scene, face.call(place, Integer.toString(face.arguments.get(place).high)));
            }
        }
    }

    private void everyMethod() {
        e.part(8, "All methods except append(), truncate(), load() and errorPosition() throw IllegalStateException if no text was loaded (checked first), and those with parameters then throw IllegalArgumentException if an argument is out of its range");
        int others = 4;
        int all = 0;
        for (java.lang.reflect.Method m : BroadcastCarousel.class.getMethods()) {
            all += m.getDeclaringClass() == BroadcastCarousel.class ? 1 : 0;
        }
        e.equal("the methods that were looked at, and four", all, faces.size() + others);
        e.due(NEW.make(), "truncate(0)", 0);
        e.due(NEW.make(), "append(0, 0, 0, 0, 0)", 20);
        e.due(NEW.make(), "load()", -11);
        e.due(NEW.make(), "errorPosition()", -1);
        // A text that was refused leaves the object without a carousel.
        e.noCarousel(FAILED.make(), "cycle()");
        e.noCarousel(FAILED.make(), "think(9, 0)");
    }

    private void whatDoesNotExist() {
        e.part(8, "a disk, item or client that does not exist is out of range, too.");
        Scene least = Scene.of("index 0 1;disk 1;item 5 0 0;", "setBound(0, 7)");
        Scene most = Scene.of("index 0 1;disk 1;disk 2;disk 3;disk 4;" + "item 5 0 0;".repeat(16)
                + "client 1 lru;".repeat(4), "think(3, 7)");
        for (Face face : faces) {
            for (int place = 0; place < face.arguments.size(); place++) {
                String words = face.arguments.get(place).words;
                if (words.startsWith("`client`: number")) {
                    e.refused(least, face.call(place, "0"));
                    e.answers(most.make(), face.call(place, "3"));
                    e.refused(most, face.call(place, "4"));
                } else if (words.startsWith("`item`: number")) {
                    e.refused(least, face.call(place, "1"));
                    e.answers(most.make(), face.call(place, "15"));
                    e.refused(most, face.call(place, "16"));
                } else if (words.startsWith("`disk`: number")) {
                    e.answers(least.make(), face.call(place, "0"));
                    e.refused(least, face.call(place, "1"));
                    e.answers(most.make(), face.call(place, "3"));
                    e.refused(most, face.call(place, "4"));
                }
            }
        }
        e.answers(least.make(), "gap(0)");
    }

    private void ranks() {
        e.promise(34, "Throws `NoSuchElementException` if there are not so many items");
        e.answers(FRESH.make(), "itemRank(4)");
        e.refused(FRESH, "itemRank(5)", "throws.NoSuchElementException");
        e.refused(WORN, "itemRank(16)", "throws.NoSuchElementException");
        e.refused(WORN, "itemRank(MAX)", "throws.NoSuchElementException");
        e.promise(35, "Throws `NoSuchElementException` if there are not so many disks");
        e.answers(FRESH.make(), "diskRank(2)");
        e.refused(FRESH, "diskRank(3)", "throws.NoSuchElementException");
        e.refused(WORN, "diskRank(4)", "throws.NoSuchElementException");
        e.refused(WORN, "diskRank(MAX)", "throws.NoSuchElementException");
    }

    private void tiersAndTheirNumber() {
        e.promise(36, "`tier`: 0 to k - 1");
        for (int k = 1; k <= 3; k++) {
            e.answers(FRESH.make(), "tierSize(" + k + ", 0)");
            e.answers(FRESH.make(), "tierSize(" + k + ", " + (k - 1) + ")");
            e.refused(WORN, "tierSize(" + k + ", " + k + ")");
            e.refused(WORN, "tierSize(" + k + ", -1)");
        }
        // Out of range also where there are too few items.
        Scene few = Scene.of("index 0 1;disk 1;disk 2;disk 3;item 5 0 0;", "setBound(0, 7)");
        e.refused(few, "tierSize(2, 2)");
        e.refused(few, "tierSize(3, -1)");
        e.refused(few, "tierSize(4, 0)");
        e.refused(few, "tierWeight(4)");
        e.refused(few, "applyTiers(4)");
    }

    private void sets() {
        Scene sixteen = Scene.of("index 0 1;disk 1;" + "item 5 0 0;".repeat(16) + "client 4 lru;", "think(0, 1)");
        e.promise(32, "`set`: a set of items, not empty");
        e.answers(sixteen.make(), "worstTime(65535)");
        e.answers(sixteen.make(), "worstTime(32768)");
        e.refused(sixteen, "worstTime(65536)");
        e.refused(sixteen, "worstTime(0)");
        e.promise(45, "`set`: a set of items, not empty");
        e.answers(sixteen.make(), "soonest(0, 65535)");
        e.refused(sixteen, "soonest(0, 65536)");
        e.refused(sixteen, "soonest(0, 65537)");
        e.refused(sixteen, "soonest(0, 0)");
        for (int promise = 47; promise <= 48; promise++) {
            e.promise(promise, "`set`: a set of 1 to 5 items");
            String start = promise == 47 ? "planTime(0, " : "planItem(0, ";
            String end = promise == 47 ? ")" : ", 0)";
            e.refused(sixteen, start + 0 + end);
            for (int set : new int[] {1, 32768, 31, 0b1111100000000000, 0b1001001001001000}) {
                e.answers(sixteen.make(), start + set + end);
            }
            for (int set : new int[] {63, 65535, 0b1111110000000000, 65536, 65537, -1, 0x7fff0000}) {
                e.refused(sixteen, start + set + end);
            }
        }
        e.promise(48, "Throws `IllegalArgumentException` if an argument is out of its range, or place is negative");
        e.answers(sixteen.make(), "planItem(0, 1, 0)");
        e.refused(sixteen, "planItem(0, 1, -1)");
        e.refused(sixteen, "planItem(0, 31, -1)");
        e.part(8, "Sets of items are bit masks; bit k stands for item k.");
        BroadcastCarousel x = sixteen.make();
        for (int item = 0; item < 16; item++) {
            e.due(x, "soonest(0, " + (1 << item) + ")", item);
            e.due(x, "planItem(0, " + (1 << item) + ", 0)", item);
        }
        BroadcastCarousel y = sixteen.make();
        e.due(y, "itemsOf(0)", 65535);
        e.due(y, "request(0, 15)", 15);
        e.due(y, "cache(0)", 32768);
        e.due(y, "setBound(15, 15)", 0);
        e.due(y, "violations()", 32768);
        e.due(y, "setBound(0, 1)", 0);
        e.due(y, "afterRepair()", 32769);
    }
}
