import java.util.ArrayList;
import java.util.Arrays;
import java.util.Collections;
import java.util.List;
import java.util.NoSuchElementException;
import java.util.TreeSet;

/**
 * The document once more, as slowly and plainly as can be: the program is a list of slots, waiting
 * is done slot by slot, a client is the list of its requests. It is what OracleTest compares with.
 */
public final class Model {
    private static final class Wrong extends RuntimeException {
        private static final long serialVersionUID = 1;
        final int code;
        final int position;

        Wrong(int code, int position) {
            this.code = code;
            this.position = position;
        }
    }

    private static final class Token {
        final String text;
        final int position;

        Token(String text, int position) {
            this.text = text;
            this.position = position;
        }
    }

    private static final class Listener {
        int capacity;
        String policy;
        int time;
        int hits;
        int misses;
        int accessSum;
        int tuningSum;
        TreeSet<Integer> cache = new TreeSet<>();
        List<Integer> log = new ArrayList<>();

        Listener copy() {
            Listener c = new Listener();
            c.capacity = capacity;
            c.policy = policy;
            c.time = time;
            c.hits = hits;
            c.misses = misses;
            c.accessSum = accessSum;
            c.tuningSum = tuningSum;
            c.cache = new TreeSet<>(cache);
            c.log = new ArrayList<>(log);
            return c;
        }
    }

    private static final class World {
        int segments;
        int length;
        List<Integer> frequencies = new ArrayList<>();
        List<Integer> popularities = new ArrayList<>();
        List<Integer> disks = new ArrayList<>();
        List<Integer> bounds = new ArrayList<>();
        List<Listener> clients = new ArrayList<>();

        World copy() {
            World w = new World();
            w.segments = segments;
            w.length = length;
            w.frequencies = new ArrayList<>(frequencies);
            w.popularities = new ArrayList<>(popularities);
            w.disks = new ArrayList<>(disks);
            w.bounds = new ArrayList<>(bounds);
            for (Listener c : clients) {
                w.clients.add(c.copy());
            }
            return w;
        }

        int items() {
            return popularities.size();
        }
    }

    private StringBuilder buffer = new StringBuilder();
    private int errorAt = -1;
    private World world = null;
    private final List<World> past = new ArrayList<>();

    // ---- the text

    public int append(int a, int b, int c, int d, int e) {
        if (buffer.length() + 20 > 500) {
            throw new IllegalStateException();
        }
        for (int word : new int[] {a, b, c, d, e}) {
            buffer.append((char) (word >>> 24)).append((char) (word >>> 16 & 255));
            buffer.append((char) (word >>> 8 & 255)).append((char) (word & 255));
        }
        return buffer.length();
    }

    public int truncate(int length) {
        if (length < 0 || length > buffer.length()) {
            throw new IllegalArgumentException();
        }
        buffer.setLength(length);
        return length;
    }

    public int load() {
        String text = buffer.toString();
        buffer = new StringBuilder();
        try {
            World read = parse(tokens(text));
            world = read;
            errorAt = -1;
            past.clear();
            return read.items();
        } catch (Wrong wrong) {
            errorAt = wrong.position;
            return -10 - wrong.code;
        }
    }

    public int errorPosition() {
        return errorAt;
    }

    private static List<Token> tokens(String text) {
        List<Token> all = new ArrayList<>();
        int at = 0;
        while (at < text.length()) {
            char sign = text.charAt(at);
            int from = at;
            if (sign == ' ' || sign == '\n') {
                at++;
                continue;
            }
            if ("abcdefghijklmnopqrstuvwxyz".indexOf(sign) >= 0) {
                while (at < text.length() && text.charAt(at) >= 'a' && text.charAt(at) <= 'z') {
                    at++;
                }
            } else if ("0123456789".indexOf(sign) >= 0) {
                while (at < text.length() && text.charAt(at) >= '0' && text.charAt(at) <= '9') {
                    at++;
                }
            } else {
                at++;
            }
            all.add(new Token(text.substring(from, at), from));
        }
        all.add(new Token("", text.length()));
        return all;
    }

    private static World parse(List<Token> tokens) {
        World w = new World();
        int[] at = {0};
        word(tokens, at, "index");
        w.segments = number(tokens, at, 0, 8);
        w.length = number(tokens, at, 1, 4);
        word(tokens, at, ";");
        do {
            limit(tokens, at, "disk", w.frequencies.size(), 4);
            word(tokens, at, "disk");
            w.frequencies.add(number(tokens, at, 1, 6));
            word(tokens, at, ";");
        } while (tokens.get(at[0]).text.equals("disk"));
        do {
            limit(tokens, at, "item", w.items(), 16);
            word(tokens, at, "item");
            w.popularities.add(number(tokens, at, 0, 99));
            w.disks.add(number(tokens, at, 0, w.frequencies.size() - 1));
            w.bounds.add(number(tokens, at, 0, 999));
            word(tokens, at, ";");
        } while (tokens.get(at[0]).text.equals("item"));
        while (tokens.get(at[0]).text.equals("client")) {
            limit(tokens, at, "client", w.clients.size(), 4);
            word(tokens, at, "client");
            Listener c = new Listener();
            c.capacity = number(tokens, at, 0, 4);
            c.policy = tokens.get(at[0]).text;
            if (!Arrays.asList("lru", "lfu", "pix").contains(c.policy)) {
                throw new Wrong(1, tokens.get(at[0]).position);
            }
            at[0]++;
            word(tokens, at, ";");
            w.clients.add(c);
        }
        word(tokens, at, "");
        return w;
    }

    private static void limit(List<Token> tokens, int[] at, String keyword, int already, int most) {
        if (already == most && tokens.get(at[0]).text.equals(keyword)) {
            throw new Wrong(3, tokens.get(at[0]).position);
        }
    }

    private static void word(List<Token> tokens, int[] at, String due) {
        Token token = tokens.get(at[0]++);
        if (!token.text.equals(due)) {
            throw new Wrong(1, token.position);
        }
    }

    private static int number(List<Token> tokens, int[] at, int low, int high) {
        Token token = tokens.get(at[0]++);
        if (!token.text.matches("[0-9]{1,4}")) {
            throw new Wrong(1, token.position);
        }
        int number = Integer.parseInt(token.text);
        if (number < low || number > high) {
            throw new Wrong(2, token.position);
        }
        return number;
    }

    // ---- the program

    private static int[] program(World w) {
        int rounds = 1;
        while (!fits(w, rounds)) {
            rounds++;
        }
        List<Integer> data = new ArrayList<>();
        for (int round = 0; round < rounds; round++) {
            for (int d = 0; d < w.frequencies.size(); d++) {
                List<Integer> mine = new ArrayList<>();
                for (int i = 0; i < w.items(); i++) {
                    if (w.disks.get(i) == d) {
                        mine.add(i);
                    }
                }
                if (mine.isEmpty()) {
                    continue;
                }
                int chunks = rounds / w.frequencies.get(d);
                int length = mine.size() / chunks + (mine.size() % chunks > 0 ? 1 : 0);
                while (mine.size() < chunks * length) {
                    mine.add(-2);
                }
                int chunk = round % chunks;
                data.addAll(mine.subList(chunk * length, chunk * length + length));
            }
        }
        List<Integer> all = new ArrayList<>();
        for (int q = 0; q < data.size(); q++) {
            for (int k = 0; k < w.segments; k++) {
                if (k * data.size() / w.segments == q) {
                    for (int p = 0; p < w.length; p++) {
                        all.add(-3 - p);
                    }
                }
            }
            all.add(data.get(q));
        }
        int[] slots = new int[all.size()];
        for (int t = 0; t < slots.length; t++) {
            slots[t] = all.get(t);
        }
        return slots;
    }

    private static boolean fits(World w, int rounds) {
        for (int d : w.disks) {
            if (rounds % w.frequencies.get(d) != 0) {
                return false;
            }
        }
        return true;
    }

    /** The access time and the tuning time. */
    private static int[] listen(World w, int[] slots, int item, int from) {
        int cycle = slots.length;
        int t = from;
        if (slots[t % cycle] == item) {
            return new int[] {1, 1};
        }
        int tuned = 0;
        if (w.segments == 0) {
            while (slots[t % cycle] != item) {
                t++;
            }
            return new int[] {t - from + 1, t - from + 1};
        }
        if (slots[t % cycle] != -3) {
            tuned++;
            t++;
            while (slots[t % cycle] != -3) {
                t++;
            }
        }
        for (int n = 0; n < w.length; n++) {
            tuned++;
            t++;
        }
        while (slots[t % cycle] != item) {
            t++;
        }
        tuned++;
        return new int[] {t - from + 1, tuned};
    }

    private static long weightOf(World w, int factor) {
        int[] slots = program(w);
        long sum = 0;
        for (int i = 0; i < w.items(); i++) {
            for (int t = 0; t < slots.length; t++) {
                int[] both = listen(w, slots, i, t);
                sum += (long) w.popularities.get(i) * (both[0] + (long) factor * both[1]);
            }
        }
        return sum;
    }

    private static int gapOf(int[] slots, int item) {
        int widest = 0;
        int last = -1;
        for (int t = 0; t < 2 * slots.length; t++) {
            if (slots[t % slots.length] == item) {
                if (last >= 0) {
                    widest = Math.max(widest, t - last);
                }
                last = t;
            }
        }
        return widest;
    }

    private static int violationsOf(World w) {
        int[] slots = program(w);
        int set = 0;
        for (int i = 0; i < w.items(); i++) {
            if (w.bounds.get(i) > 0 && gapOf(slots, i) > w.bounds.get(i)) {
                set += 1 << i;
            }
        }
        return set;
    }

    private static int count(int[] slots, int content) {
        int n = 0;
        for (int slot : slots) {
            if (slot == content) {
                n++;
            }
        }
        return n;
    }

    // ---- clients

    private static int ask(World w, Listener c, int item) {
        int[] slots = program(w);
        c.log.add(item);
        if (c.cache.contains(item)) {
            c.hits++;
            return 0;
        }
        int[] both = listen(w, slots, item, c.time);
        c.misses++;
        c.time += both[0];
        c.accessSum += both[0];
        c.tuningSum += both[1];
        c.cache.add(item);
        if (c.cache.size() > c.capacity) {
            c.cache.remove(goer(w, c));
        }
        return both[0];
    }

    private static Integer goer(World w, Listener c) {
        List<Integer> those = new ArrayList<>(c.cache);
        those.sort((a, b) -> {
            if (c.policy.equals("pix")) {
                int left = w.popularities.get(a) * w.frequencies.get(w.disks.get(b));
                int right = w.popularities.get(b) * w.frequencies.get(w.disks.get(a));
                return left != right ? Integer.compare(left, right) : Integer.compare(a, b);
            }
            int often = Integer.compare(Collections.frequency(c.log, a), Collections.frequency(c.log, b));
            if (c.policy.equals("lfu") && often != 0) {
                return often;
            }
            return Integer.compare(c.log.lastIndexOf(a), c.log.lastIndexOf(b));
        });
        return those.get(0);
    }

    // ---- repair and tiers

    private static int mend(World w) {
        int moves = 0;
        while (moves < 60) {
            int set = violationsOf(w);
            int item = -1;
            int target = -1;
            for (int i = w.items() - 1; i >= 0; i--) {
                int to = faster(w, i);
                if ((set >> i & 1) == 1 && to >= 0) {
                    item = i;
                    target = to;
                }
            }
            if (item < 0) {
                break;
            }
            w.disks.set(item, target);
            moves++;
        }
        return moves;
    }

    private static int faster(World w, int item) {
        int own = w.frequencies.get(w.disks.get(item));
        for (int f = own + 1; f <= 6; f++) {
            if (w.frequencies.contains(f)) {
                return w.frequencies.indexOf(f);
            }
        }
        return -1;
    }

    private static List<Integer> ranking(List<Integer> values) {
        List<Integer> numbers = new ArrayList<>();
        for (int n = 0; n < values.size(); n++) {
            numbers.add(n);
        }
        numbers.sort((a, b) -> Integer.compare(values.get(b), values.get(a)));
        return numbers;
    }

    private static void divide(World w, List<Integer> sizes) {
        List<Integer> items = ranking(w.popularities);
        List<Integer> disks = ranking(w.frequencies);
        int place = 0;
        for (int tier = 0; tier < sizes.size(); tier++) {
            for (int n = 0; n < sizes.get(tier); n++) {
                w.disks.set(items.get(place++), disks.get(tier));
            }
        }
    }

    private static void divisions(int items, int k, List<Integer> begun, List<List<Integer>> all) {
        if (k == 1) {
            List<Integer> whole = new ArrayList<>(begun);
            whole.add(items);
            all.add(whole);
            return;
        }
        for (int first = 1; first <= items - k + 1; first++) {
            List<Integer> more = new ArrayList<>(begun);
            more.add(first);
            divisions(items - first, k - 1, more, all);
        }
    }

    private List<Integer> bestDivision(int k) {
        List<List<Integer>> all = new ArrayList<>();
        divisions(world.items(), k, new ArrayList<>(), all);
        List<Integer> best = null;
        long bestWeight = 0;
        long bestCycle = 0;
        for (List<Integer> sizes : all) {
            World w = world.copy();
            divide(w, sizes);
            long weight = weightOf(w, 0);
            long cycle = program(w).length;
            if (best == null || weight * bestCycle < bestWeight * cycle) {
                best = sizes;
                bestWeight = weight;
                bestCycle = cycle;
            }
        }
        return best;
    }

    // ---- arguments

    private void need() {
        if (world == null) {
            throw new IllegalStateException();
        }
    }

    private void within(int value, int low, int high) {
        if (value < low || value > high) {
            throw new IllegalArgumentException();
        }
    }

    private void item(int item) {
        within(item, 0, world.items() - 1);
    }

    private void disk(int disk) {
        within(disk, 0, world.frequencies.size() - 1);
    }

    private void client(int client) {
        within(client, 0, world.clients.size() - 1);
    }

    private void set(int set, int most) {
        within(set, 1, (1 << world.items()) - 1);
        within(members(set).size(), 1, most);
    }

    private static List<Integer> members(int set) {
        List<Integer> all = new ArrayList<>();
        for (int i = 0; i < 32; i++) {
            if ((set >>> i & 1) == 1) {
                all.add(i);
            }
        }
        return all;
    }

    private void remember() {
        past.add(world.copy());
        if (past.size() > 10) {
            past.remove(0);
        }
    }

    // ---- actions

    public int request(int client, int item) {
        need();
        client(client);
        item(item);
        remember();
        return ask(world, world.clients.get(client), item);
    }

    public int think(int client, int slots) {
        need();
        client(client);
        within(slots, 1, 9999);
        remember();
        world.clients.get(client).time += slots;
        return world.clients.get(client).time;
    }

    public int setPopularity(int item, int popularity) {
        need();
        item(item);
        within(popularity, 0, 99);
        remember();
        return world.popularities.set(item, popularity);
    }

    public int setBound(int item, int bound) {
        need();
        item(item);
        within(bound, 0, 999);
        remember();
        return world.bounds.set(item, bound);
    }

    public int setFrequency(int disk, int frequency) {
        need();
        disk(disk);
        within(frequency, 1, 6);
        remember();
        return world.frequencies.set(disk, frequency);
    }

    public int setIndex(int segments, int length) {
        need();
        within(segments, 0, 8);
        within(length, 1, 4);
        remember();
        world.segments = segments;
        world.length = length;
        return program(world).length;
    }

    public int moveItem(int item, int disk) {
        need();
        item(item);
        disk(disk);
        remember();
        return world.disks.set(item, disk);
    }

    public int repair() {
        need();
        remember();
        return mend(world);
    }

    public int applyTiers(int k) {
        need();
        within(k, 1, world.frequencies.size());
        if (world.items() < k) {
            return -2;
        }
        List<Integer> sizes = bestDivision(k);
        remember();
        List<Integer> before = new ArrayList<>(world.disks);
        divide(world, sizes);
        int moved = 0;
        for (int i = 0; i < world.items(); i++) {
            if (!before.get(i).equals(world.disks.get(i))) {
                moved++;
            }
        }
        return moved;
    }

    // ---- queries

    public int itemValue(int item, int what) {
        need();
        item(item);
        within(what, 0, 2);
        return (what == 0 ? world.popularities : what == 1 ? world.disks : world.bounds).get(item);
    }

    public int frequency(int disk) {
        need();
        disk(disk);
        return world.frequencies.get(disk);
    }

    public int itemsOf(int disk) {
        need();
        disk(disk);
        int set = 0;
        for (int i = 0; i < world.items(); i++) {
            set |= world.disks.get(i) == disk ? 1 << i : 0;
        }
        return set;
    }

    public int cycle() {
        need();
        return program(world).length;
    }

    public int slotAt(int time) {
        need();
        within(time, 0, 999999);
        int[] slots = program(world);
        return slots[time % slots.length];
    }

    public int occurrences(int item) {
        need();
        item(item);
        return count(program(world), item);
    }

    public int emptySlots() {
        need();
        return count(program(world), -2);
    }

    public int gap(int item) {
        need();
        item(item);
        return gapOf(program(world), item);
    }

    public int violations() {
        need();
        return violationsOf(world);
    }

    public int nextTime(int item, int time) {
        need();
        item(item);
        within(time, 0, 999999);
        int[] slots = program(world);
        int t = time;
        while (slots[t % slots.length] != item) {
            t++;
        }
        return t;
    }

    public double share(int item) {
        need();
        item(item);
        int[] slots = program(world);
        return (double) count(slots, item) / (double) slots.length;
    }

    public int accessTime(int item, int time) {
        need();
        item(item);
        within(time, 0, 999999);
        return listen(world, program(world), item, time)[0];
    }

    public int tuningTime(int item, int time) {
        need();
        item(item);
        within(time, 0, 999999);
        return listen(world, program(world), item, time)[1];
    }

    public int worstAccess(int item) {
        need();
        item(item);
        int[] slots = program(world);
        int worst = 0;
        for (int t = 0; t < slots.length; t++) {
            worst = Math.max(worst, listen(world, slots, item, t)[0]);
        }
        return worst;
    }

    public long weight(int factor) {
        need();
        within(factor, 0, 99);
        return weightOf(world, factor);
    }

    public double meanAccess(int item) {
        need();
        item(item);
        int[] slots = program(world);
        int sum = 0;
        for (int t = 0; t < slots.length; t++) {
            sum += listen(world, slots, item, t)[0];
        }
        return (double) sum / (double) slots.length;
    }

    public int bestSegments(int factor) {
        need();
        within(factor, 0, 99);
        int best = -1;
        long bestWeight = 0;
        long bestCycle = 0;
        for (int m = 0; m <= 8; m++) {
            World w = world.copy();
            w.segments = m;
            long weight = weightOf(w, factor);
            long cycle = program(w).length;
            if (best < 0 || weight * bestCycle < bestWeight * cycle) {
                best = m;
                bestWeight = weight;
                bestCycle = cycle;
            }
        }
        return best;
    }

    public int worstTime(int set) {
        need();
        set(set, 16);
        int[] slots = program(world);
        int worst = -1;
        int most = -1;
        for (int t = 0; t < slots.length; t++) {
            int sum = 0;
            for (int i : members(set)) {
                sum += listen(world, slots, i, t)[0];
            }
            if (sum > most) {
                most = sum;
                worst = t;
            }
        }
        return worst;
    }

    public int leastWorth() {
        need();
        int[] slots = program(world);
        int best = 0;
        for (int i = 0; i < world.items(); i++) {
            if (world.popularities.get(i) * count(slots, best) < world.popularities.get(best) * count(slots, i)) {
                best = i;
            }
        }
        return best;
    }

    public int itemRank(int place) {
        need();
        within(place, 0, Integer.MAX_VALUE);
        if (place >= world.items()) {
            throw new NoSuchElementException();
        }
        return ranking(world.popularities).get(place);
    }

    public int diskRank(int place) {
        need();
        within(place, 0, Integer.MAX_VALUE);
        if (place >= world.frequencies.size()) {
            throw new NoSuchElementException();
        }
        return ranking(world.frequencies).get(place);
    }

    public int tierSize(int k, int tier) {
        need();
        within(k, 1, world.frequencies.size());
        within(tier, 0, k - 1);
        return world.items() < k ? -2 : bestDivision(k).get(tier);
    }

    public long tierWeight(int k) {
        need();
        within(k, 1, world.frequencies.size());
        if (world.items() < k) {
            return -2;
        }
        World w = world.copy();
        divide(w, bestDivision(k));
        return weightOf(w, 0);
    }

    public int afterRepair() {
        need();
        World w = world.copy();
        mend(w);
        return violationsOf(w);
    }

    public int bestDisk(int item) {
        need();
        item(item);
        int best = -1;
        int fewest = 99;
        for (int d = 0; d < world.frequencies.size(); d++) {
            World w = world.copy();
            w.disks.set(item, d);
            int n = members(violationsOf(w)).size();
            if (n < fewest) {
                fewest = n;
                best = d;
            }
        }
        return best;
    }

    public int clientCount() {
        need();
        return world.clients.size();
    }

    public int clientValue(int client, int what) {
        need();
        client(client);
        within(what, 0, 5);
        Listener c = world.clients.get(client);
        return new int[] {c.time, c.hits, c.misses, c.accessSum, c.tuningSum, c.capacity}[what];
    }

    public int cache(int client) {
        need();
        client(client);
        int set = 0;
        for (int i : world.clients.get(client).cache) {
            set += 1 << i;
        }
        return set;
    }

    public int requests(int client, int item) {
        need();
        client(client);
        item(item);
        return Collections.frequency(world.clients.get(client).log, item);
    }

    public int victim(int client, int item) {
        need();
        client(client);
        item(item);
        Listener c = world.clients.get(client).copy();
        TreeSet<Integer> before = new TreeSet<>(c.cache);
        before.add(item);
        ask(world, c, item);
        before.removeAll(c.cache);
        return before.isEmpty() ? -2 : before.first();
    }

    public int soonest(int client, int set) {
        need();
        client(client);
        set(set, 16);
        Listener c = world.clients.get(client);
        int[] slots = program(world);
        int best = -2;
        int least = Integer.MAX_VALUE;
        for (int i : members(set)) {
            int wait = c.cache.contains(i) ? 0 : listen(world, slots, i, c.time)[0];
            if (wait < least) {
                least = wait;
                best = i;
            }
        }
        return best;
    }

    public int hint(int client) {
        need();
        client(client);
        Listener c = world.clients.get(client);
        int[] slots = program(world);
        int best = -2;
        int least = Integer.MAX_VALUE;
        for (int i : c.cache) {
            int wait = listen(world, slots, i, c.time)[0];
            if (wait < least) {
                least = wait;
                best = i;
            }
        }
        return best;
    }

    private void orders(Listener c, List<Integer> left, List<Integer> begun, int[] best, List<Integer> found) {
        if (left.isEmpty()) {
            if (c.time < best[0]) {
                best[0] = c.time;
                found.clear();
                found.addAll(begun);
            }
            return;
        }
        for (Integer i : left) {
            Listener next = c.copy();
            ask(world, next, i);
            List<Integer> rest = new ArrayList<>(left);
            rest.remove(i);
            List<Integer> more = new ArrayList<>(begun);
            more.add(i);
            orders(next, rest, more, best, found);
        }
    }

    public int planTime(int client, int set) {
        need();
        client(client);
        set(set, 5);
        int[] best = {Integer.MAX_VALUE};
        orders(world.clients.get(client), members(set), new ArrayList<>(), best, new ArrayList<>());
        return best[0];
    }

    public int planItem(int client, int set, int place) {
        need();
        client(client);
        set(set, 5);
        within(place, 0, Integer.MAX_VALUE);
        List<Integer> found = new ArrayList<>();
        orders(world.clients.get(client), members(set), new ArrayList<>(), new int[] {Integer.MAX_VALUE}, found);
        return place < found.size() ? found.get(place) : -2;
    }

    public int undo() {
        need();
        if (past.isEmpty()) {
            return -2;
        }
        world = past.remove(past.size() - 1);
        return past.size();
    }
}
