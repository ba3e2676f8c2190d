import java.lang.reflect.InvocationTargetException;
import java.lang.reflect.Method;
import java.util.ArrayList;
import java.util.HashMap;
import java.util.List;
import java.util.Map;

/**
 * For every method that needs a carousel: IllegalStateException without one, whatever the
 * arguments are; then IllegalArgumentException for each argument out of its range, and nothing
 * changed by it; no exception at the ends of the ranges.
 */
public final class GuardTest {
    private static final Check check = new Check();
    private static final String TEXT = "index 1 2;disk 1;disk 3;disk 2;"
            + "item 5 0 4;item 9 1 0;item 3 0 5;item 7 2 0;item 1 1 9;client 1 lru;client 2 pix;";
    private static final int[] ITEM = {0, 4};
    private static final int[] DISK = {0, 2};
    private static final int[] CLIENT = {0, 1};
    private static final int[] SET = {1, 31};
    private static final int[] TIME = {0, 999999};
    private static final int[] FACTOR = {0, 99};
    private static final int[] TIERS = {1, 3};
    private static final int[] PLACE = {0, Integer.MAX_VALUE};

    private static final Map<String, int[][]> RANGES = new HashMap<>();

    private static void range(String method, int[]... ranges) {
        RANGES.put(method, ranges);
    }

    private static void ranges() {
        range("request", CLIENT, ITEM);
        range("think", CLIENT, new int[] {1, 9999});
        range("setPopularity", ITEM, new int[] {0, 99});
        range("setBound", ITEM, new int[] {0, 999});
        range("setFrequency", DISK, new int[] {1, 6});
        range("setIndex", new int[] {0, 8}, new int[] {1, 4});
        range("moveItem", ITEM, DISK);
        range("repair");
        range("applyTiers", TIERS);
        range("itemValue", ITEM, new int[] {0, 2});
        range("frequency", DISK);
        range("itemsOf", DISK);
        range("cycle");
        range("slotAt", TIME);
        range("occurrences", ITEM);
        range("emptySlots");
        range("gap", ITEM);
        range("violations");
        range("nextTime", ITEM, TIME);
        range("share", ITEM);
        range("accessTime", ITEM, TIME);
        range("tuningTime", ITEM, TIME);
        range("worstAccess", ITEM);
        range("weight", FACTOR);
        range("meanAccess", ITEM);
        range("bestSegments", FACTOR);
        range("worstTime", SET);
        range("leastWorth");
        range("itemRank", ITEM);
        range("diskRank", DISK);
        // The second range hangs on the first one: it is looked at by hand.
        range("tierSize", TIERS, new int[] {0, 0});
        range("tierWeight", TIERS);
        range("afterRepair");
        range("bestDisk", ITEM);
        range("clientCount");
        range("clientValue", CLIENT, new int[] {0, 5});
        range("cache", CLIENT);
        range("requests", CLIENT, ITEM);
        range("victim", CLIENT, ITEM);
        range("soonest", CLIENT, SET);
        range("hint", CLIENT);
        range("planTime", CLIENT, SET);
        range("planItem", CLIENT, SET, PLACE);
        range("undo");
    }

    public static void main(String[] args) throws Exception {
        ranges();
        int methods = 0;
        for (Method m : BroadcastCarousel.class.getDeclaredMethods()) {
            if (RANGES.containsKey(m.getName()) && java.lang.reflect.Modifier.isPublic(m.getModifiers())) {
                methods++;
                withoutCarousel(m, RANGES.get(m.getName()));
                atTheEnds(m, RANGES.get(m.getName()));
                if (!m.getName().endsWith("Rank")) {
                    outOfRange(m, RANGES.get(m.getName()));
                }
            }
        }
        check.dueText("the methods that need a carousel", "44", Integer.toString(methods));
        byHand();
        sixteenItems();
        check.end();
    }

    private static String outcome(Method m, BroadcastCarousel x, Object[] arguments) throws Exception {
        try {
            m.invoke(x, arguments);
            return "an answer";
        } catch (InvocationTargetException e) {
            return "throws." + e.getCause().getClass().getSimpleName();
        }
    }

    private static String call(Method m, Object[] arguments) {
        return m.getName() + java.util.Arrays.toString(arguments);
    }

    private static Object[] lows(int[][] ranges) {
        Object[] arguments = new Object[ranges.length];
        for (int n = 0; n < ranges.length; n++) {
            arguments[n] = ranges[n][0];
        }
        return arguments;
    }

    private static void withoutCarousel(Method m, int[][] ranges) throws Exception {
        BroadcastCarousel x = new BroadcastCarousel();
        Object[] arguments = lows(ranges);
        check.dueText(call(m, arguments), "throws.IllegalStateException", outcome(m, x, arguments));
        java.util.Arrays.fill(arguments, -1);
        check.dueText(call(m, arguments), "throws.IllegalStateException", outcome(m, x, arguments));
        java.util.Arrays.fill(arguments, Integer.MAX_VALUE);
        check.dueText(call(m, arguments), "throws.IllegalStateException", outcome(m, x, arguments));
    }

    private static void atTheEnds(Method m, int[][] ranges) throws Exception {
        for (int ends = 0; ends < 1 << ranges.length; ends++) {
            Object[] arguments = new Object[ranges.length];
            for (int n = 0; n < ranges.length; n++) {
                arguments[n] = ranges[n][ends >> n & 1];
            }
            check.dueText(call(m, arguments), "an answer", outcome(m, Check.with(TEXT), arguments));
        }
    }

    private static void outOfRange(Method m, int[][] ranges) throws Exception {
        BroadcastCarousel x = Check.with(TEXT);
        x.request(0, 1);
        String before = Fingerprint.of(x);
        for (int n = 0; n < ranges.length; n++) {
            List<Integer> wrong = new ArrayList<>(List.of(ranges[n][0] - 1, Integer.MIN_VALUE));
            if (ranges[n][1] < Integer.MAX_VALUE) {
                wrong.add(Integer.MAX_VALUE);
                wrong.add(ranges[n][1] + 1);
            }
            for (int value : wrong) {
                Object[] arguments = lows(ranges);
                arguments[n] = value;
                check.dueText(call(m, arguments), "throws.IllegalArgumentException", outcome(m, x, arguments));
            }
        }
        check.dueText("nothing is changed by " + m.getName(), before, Fingerprint.of(x));
        check.due("no action was remembered by " + m.getName(), 0, x::undo);
    }

    private static void byHand() {
        BroadcastCarousel x = Check.with(TEXT);
        for (int k = 1; k <= 3; k++) {
            int tiers = k;
            check.outOfRange("tierSize(" + k + ", " + k + ")", () -> x.tierSize(tiers, tiers));
            check.outOfRange("tierSize(" + k + ", -1)", () -> x.tierSize(tiers, -1));
        }
        check.outOfRange("itemRank(-1)", () -> x.itemRank(-1));
        check.outOfRange("itemRank(MIN)", () -> x.itemRank(Integer.MIN_VALUE));
        check.noSuch("itemRank(5)", () -> x.itemRank(5));
        check.noSuch("itemRank(MAX)", () -> x.itemRank(Integer.MAX_VALUE));
        check.outOfRange("diskRank(-1)", () -> x.diskRank(-1));
        check.outOfRange("diskRank(MIN)", () -> x.diskRank(Integer.MIN_VALUE));
        check.noSuch("diskRank(3)", () -> x.diskRank(3));
        check.noSuch("diskRank(MAX)", () -> x.diskRank(Integer.MAX_VALUE));
        BroadcastCarousel y = Check.with("index 0 1;disk 1;item 5 0 0;");
        check.outOfRange("cache(0) without clients", () -> y.cache(0));
        check.outOfRange("request(0, 0) without clients", () -> y.request(0, 0));
        check.outOfRange("hint(0) without clients", () -> y.hint(0));
    }

    private static void sixteenItems() {
        BroadcastCarousel x = Check.with("index 0 1;disk 1;" + "item 5 0 0;".repeat(16) + "client 4 lru;");
        check.due("45: soonest of all sixteen", 0, () -> x.soonest(0, 65535));
        check.outOfRange("45: soonest(65536)", () -> x.soonest(0, 65536));
        check.outOfRange("32: worstTime(65536)", () -> x.worstTime(65536));
        check.due("47: planTime of five", 16, () -> x.planTime(0, 0b1111100000000000));
        check.outOfRange("47: planTime of six", () -> x.planTime(0, 63));
        check.outOfRange("48: planItem of six", () -> x.planItem(0, 63, 0));
        check.outOfRange("48: planItem of sixteen", () -> x.planItem(0, 65535, 5));
        check.outOfRange("47: planTime(65536)", () -> x.planTime(0, 65536));
        check.outOfRange("47: planTime of a negative set", () -> x.planTime(0, Integer.MIN_VALUE));
    }
}
