import java.lang.reflect.InvocationTargetException;
import java.lang.reflect.Method;
import java.util.ArrayList;
import java.util.Arrays;
import java.util.Comparator;
import java.util.List;
import java.util.Random;

/** Runs of calls by a fixed seed, each made on a BroadcastCarousel and on the Model. */
public final class OracleTest {
    private static final int RUNS = 400;
    private static final int CALLS = 512;

    private final Random random;
    private final BroadcastCarousel x = new BroadcastCarousel();
    private final Model model = new Model();
    private final List<String> told = new ArrayList<>();
    private int calls = 0;
    private boolean wrong = false;

    private OracleTest(long seed) {
        random = new Random(seed);
    }

    public static void main(String[] args) throws Exception {
        int runs = args.length > 0 ? Integer.parseInt(args[0]) : RUNS;
        long first = args.length > 1 ? Long.parseLong(args[1]) : 1;
        int bad = 0;
        for (long seed = first; seed < first + runs && bad < 3; seed++) {
            OracleTest run = new OracleTest(seed);
            run.go();
            if (run.wrong) {
                bad++;
                System.out.println("run " + seed + ":");
                run.told.forEach(System.out::println);
            }
        }
        System.out.println(runs + " runs, " + bad + " not as due");
        if (bad != 0) {
            System.exit(1);
        }
    }

    private void go() throws Exception {
        Method[] methods = BroadcastCarousel.class.getMethods();
        Arrays.sort(methods, Comparator.comparing(Method::getName));
        List<Method> own = new ArrayList<>();
        for (Method m : methods) {
            if (m.getDeclaringClass() == BroadcastCarousel.class) {
                own.add(m);
            }
        }
        // Some calls without a carousel first.
        for (int n = 0; n < 5 && !wrong; n++) {
            anyCall(own);
        }
        loadText();
        while (calls < CALLS - 40 && !wrong) {
            if (random.nextInt(60) == 0) {
                loadText();
            } else {
                anyCall(own);
            }
        }
    }

    private void anyCall(List<Method> own) throws Exception {
        Method m = own.get(random.nextInt(own.size()));
        // Requests make the clients' states rich, so they come more often than others.
        if (random.nextInt(3) == 0) {
            m = named(own, new String[] {"request", "think", "undo", "moveItem"}[random.nextInt(4)]);
        }
        call(m, arguments(m));
    }

    private static Method named(List<Method> own, String name) {
        for (Method m : own) {
            if (m.getName().equals(name)) {
                return m;
            }
        }
        throw new AssertionError(name);
    }

    private String call(Method m, Object[] arguments) throws Exception {
        calls++;
        Method due = Model.class.getMethod(m.getName(), m.getParameterTypes());
        String got = outcome(m, x, arguments);
        String want = outcome(due, model, arguments);
        told.add(m.getName() + Arrays.toString(arguments) + " answered " + got);
        if (!got.equals(want)) {
            wrong = true;
            told.add("due is " + want);
        }
        return got;
    }

    private static String outcome(Method m, Object target, Object[] arguments) throws Exception {
        try {
            return m.invoke(target, arguments).toString();
        } catch (InvocationTargetException e) {
            return "throws." + e.getCause().getClass().getSimpleName();
        }
    }

    private Object[] arguments(Method m) {
        Object[] all = new Object[m.getParameterCount()];
        String name = m.getName();
        for (int n = 0; n < all.length; n++) {
            all[n] = random.nextInt(25) == 0 ? oddNumber() : number(name, n);
        }
        return all;
    }

    private int oddNumber() {
        int[] odd = {-1, -2, 1000000, 999999, Integer.MIN_VALUE, Integer.MAX_VALUE, 0, 100, 99, 16, 5, 65536, 10000};
        return odd[random.nextInt(odd.length)];
    }

    private int number(String name, int n) {
        switch (name) {
            case "append":
                return random.nextInt();
            case "truncate":
                return random.nextInt(30);
            case "think":
                return n == 0 ? client() : 1 + random.nextInt(random.nextBoolean() ? 9999 : 20);
            case "setPopularity":
                return n == 0 ? item() : random.nextInt(random.nextBoolean() ? 100 : 5);
            case "setBound":
                return n == 0 ? item() : random.nextInt(random.nextBoolean() ? 1000 : 40);
            case "setFrequency":
                return n == 0 ? disk() : 1 + random.nextInt(6);
            case "setIndex":
                return n == 0 ? random.nextInt(9) : 1 + random.nextInt(4);
            case "moveItem":
                return n == 0 ? item() : disk();
            case "applyTiers":
            case "tierWeight":
                return 1 + random.nextInt(4);
            case "tierSize":
                return n == 0 ? 1 + random.nextInt(4) : random.nextInt(4);
            case "itemValue":
                return n == 0 ? item() : random.nextInt(3);
            case "frequency":
            case "itemsOf":
            case "diskRank":
                return disk();
            case "slotAt":
                return time();
            case "nextTime":
            case "accessTime":
            case "tuningTime":
                return n == 0 ? item() : time();
            case "weight":
            case "bestSegments":
                return random.nextInt(random.nextBoolean() ? 4 : 100);
            case "worstTime":
                return set(16);
            case "clientValue":
                return n == 0 ? client() : random.nextInt(6);
            case "cache":
            case "hint":
                return client();
            case "request":
            case "requests":
            case "victim":
                return n == 0 ? client() : item();
            case "soonest":
                return n == 0 ? client() : set(16);
            case "planTime":
                return n == 0 ? client() : set(5);
            case "planItem":
                return n == 0 ? client() : n == 1 ? set(5) : random.nextInt(6);
            default:
                return item();
        }
    }

    private int items = 4;
    private int disks = 2;
    private int clients = 2;

    private int item() {
        return random.nextInt(items + (random.nextInt(20) == 0 ? 1 : 0));
    }

    private int disk() {
        return random.nextInt(disks + (random.nextInt(20) == 0 ? 1 : 0));
    }

    private int client() {
        return random.nextInt(clients + (random.nextInt(20) == 0 || clients == 0 ? 1 : 0));
    }

    private int time() {
        return random.nextBoolean() ? random.nextInt(100) : random.nextInt(1000000);
    }

    private int set(int most) {
        int set = 0;
        int size = 1 + random.nextInt(most);
        for (int n = 0; n < size; n++) {
            set |= 1 << item();
        }
        return set;
    }

    private void loadText() throws Exception {
        StringBuilder text = rightText();
        if (random.nextInt(3) == 0 && text.length() > 0) {
            for (int n = random.nextInt(2); n >= 0; n--) {
                spoil(text);
            }
        }
        call(BroadcastCarousel.class.getMethod("truncate", int.class), new Object[] {0});
        Method append = BroadcastCarousel.class.getMethod("append", int.class, int.class, int.class, int.class, int.class);
        int length = Math.min(text.length(), 500);
        for (int from = 0; from < length; from += 20) {
            Object[] words = new Object[5];
            for (int w = 0; w < 5; w++) {
                int word = 0;
                for (int b = 0; b < 4; b++) {
                    int at = from + 4 * w + b;
                    word = word << 8 | (at < text.length() ? text.charAt(at) & 255 : 0);
                }
                words[w] = word;
            }
            call(append, words);
        }
        call(BroadcastCarousel.class.getMethod("truncate", int.class), new Object[] {length});
        call(BroadcastCarousel.class.getMethod("load"), new Object[0]);
        call(BroadcastCarousel.class.getMethod("errorPosition"), new Object[0]);
    }

    private StringBuilder rightText() {
        boolean tight = random.nextInt(3) > 0;
        disks = 1 + random.nextInt(4);
        // Many items make the model's search for tiers slow.
        items = 1 + random.nextInt(random.nextInt(6) == 0 ? 16 : 6);
        clients = random.nextInt(5);
        StringBuilder text = new StringBuilder();
        words(text, tight, "index", random.nextInt(3) == 0 ? 0 : random.nextInt(9), 1 + random.nextInt(4));
        for (int d = 0; d < disks; d++) {
            words(text, tight, "disk", 1 + random.nextInt(6));
        }
        int kinds = random.nextInt(3);
        for (int i = 0; i < items; i++) {
            int popularity = kinds == 0 ? random.nextInt(100) : kinds == 1 ? random.nextInt(4) : 7;
            words(text, tight, "item", popularity, random.nextInt(disks), random.nextBoolean() ? 0 : random.nextInt(60));
        }
        for (int c = 0; c < clients; c++) {
            words(text, tight, "client", random.nextInt(5));
            text.setLength(text.length() - 1);
            blanks(text, tight);
            text.append(new String[] {"lru", "lfu", "pix"}[random.nextInt(3)]);
            blanks(text, tight);
            text.append(';');
        }
        return text;
    }

    private void words(StringBuilder text, boolean tight, String word, int... numbers) {
        blanks(text, tight);
        text.append(word);
        blanks(text, tight);
        for (int n = 0; n < numbers.length; n++) {
            if (n > 0) {
                text.append(random.nextInt(3) == 0 ? '\n' : ' ');
            }
            text.append(random.nextInt(30) == 0 ? "0" : "").append(numbers[n]);
        }
        blanks(text, tight);
        text.append(';');
    }

    private void blanks(StringBuilder text, boolean tight) {
        while (!tight && random.nextInt(3) == 0) {
            text.append(random.nextBoolean() ? ' ' : '\n');
        }
    }

    private void spoil(StringBuilder text) {
        int at = random.nextInt(text.length());
        switch (random.nextInt(6)) {
            case 0:
                text.setLength(at);
                text.append(' ');
                break;
            case 1:
                text.deleteCharAt(at);
                break;
            case 2:
                text.insert(at, "0123456789;;  ax\tA\u00e9\0".charAt(random.nextInt(20)));
                break;
            case 3:
                text.insert(at, new String[] {"disk 3;", "item 5 0 0;", "client 1 lru;", "index 1 1;"}[random.nextInt(4)]);
                break;
            case 4:
                int end = text.indexOf(";", at);
                int piece = random.nextInt(4);
                text.insert(end < 0 ? at : end + 1,
                        new String[] {"disk 3;", "item 5 0 0;", "client 1 lru;", "index 1 1;"}[piece].repeat(1 + random.nextInt(5)));
                break;
            default:
                text.setCharAt(at, "0123456789;; z".charAt(random.nextInt(14)));
        }
        if (text.length() == 0) {
            text.append(' ');
        }
    }
}
