import java.util.NoSuchElementException;

/**
 * A scheduler for a broadcast carousel: items are sent again and again in one cyclic program that
 * is made from disks of different frequencies, with index segments on the air; clients wait for
 * items and keep some of them in caches.
 */
public final class BroadcastCarousel {
    public static final int NONE = -1;

    private static final int MOST_BYTES = 500;
    private static final int MOST_SEGMENTS = 8;
    private static final int MOST_LENGTH = 4;
    private static final int MOST_DISKS = 4;
    private static final int MOST_FREQUENCY = 6;
    private static final int MOST_ITEMS = 16;
    private static final int MOST_POPULARITY = 99;
    private static final int MOST_BOUND = 999;
    private static final int MOST_CLIENTS = 4;
    private static final int MOST_CAPACITY = 4;
    private static final int MOST_THINKING = 9999;
    private static final int LAST_TIME = 999999;
    private static final int MOST_FACTOR = 99;
    private static final int MOST_PLANNED = 5;
    private static final int MOST_ORDERS = 120;
    private static final int MOST_DIVISIONS = 455;
    private static final int MOST_MOVES = 60;
    private static final int MOST_REMEMBERED = 10;

    /** What a method answers if it has nothing to name; also the sign of an empty slot. */
    private static final int NOTHING = -2;
    private static final int FIRST_INDEX_SLOT = -3;
    private static final int WRONG_TEXT = -10;

    private static final int LRU = 0;
    private static final int LFU = 1;
    private static final int PIX = 2;

    private final byte[] text = new byte[MOST_BYTES];
    private int textLength = 0;
    private int wrongAt = NONE;
    private boolean loaded = false;

    private final Parser parser = new Parser();
    private final State draft = new State();
    private final State now = new State();
    private final History history = new History();
    private final Program program = new Program();

    // Questions of the kind "what if" are answered on these, so that they change nothing.
    private final Settings trial = new Settings();
    private final Program trialProgram = new Program();
    private final Client trialClient = new Client();
    private final Tiers tiers = new Tiers();
    private final Plan plan = new Plan();

    public BroadcastCarousel() {
    }

    // ---- the text

    public int append(int a, int b, int c, int d, int e) throws IllegalStateException {
        if (textLength > MOST_BYTES - 20) {
            throw new IllegalStateException("the text buffer is full");
        }
        appendWord(a);
        appendWord(b);
        appendWord(c);
        appendWord(d);
        appendWord(e);
        return textLength;
    }

    private void appendWord(int word) {
        for (int shift = 24; shift >= 0 && textLength < MOST_BYTES; shift -= 8) {
            text[textLength] = (byte) (word >> shift);
            textLength++;
        }
    }

    public int truncate(int length) throws IllegalArgumentException {
        needRange(length, 0, textLength);
        textLength = length;
        return textLength;
    }

    public int load() {
        int length = textLength;
        textLength = 0;
        int error = parser.read(text, length, draft);
        if (error != 0) {
            wrongAt = parser.start;
            return WRONG_TEXT - error;
        }
        wrongAt = NONE;
        now.copyFrom(draft);
        program.build(now.settings);
        history.forget();
        loaded = true;
        return now.settings.items;
    }

    public int errorPosition() {
        return wrongAt;
    }

    // ---- actions

    public int request(int client, int item) throws IllegalStateException, IllegalArgumentException {
        needCarousel();
        needClient(client);
        needItem(item);
        history.remember(now);
        return now.clients[client].ask(item, now.settings, program);
    }

    public int think(int client, int slots) throws IllegalStateException, IllegalArgumentException {
        needCarousel();
        needClient(client);
        needRange(slots, 1, MOST_THINKING);
        history.remember(now);
        Client thinker = now.clients[client];
        thinker.time += slots;
        return thinker.time;
    }

    public int setPopularity(int item, int popularity) throws IllegalStateException, IllegalArgumentException {
        needCarousel();
        needItem(item);
        needRange(popularity, 0, MOST_POPULARITY);
        history.remember(now);
        int previous = now.settings.popularity[item];
        now.settings.popularity[item] = popularity;
        return previous;
    }

    public int setBound(int item, int bound) throws IllegalStateException, IllegalArgumentException {
        needCarousel();
        needItem(item);
        needRange(bound, 0, MOST_BOUND);
        history.remember(now);
        int previous = now.settings.bound[item];
        now.settings.bound[item] = bound;
        return previous;
    }

    public int setFrequency(int disk, int frequency) throws IllegalStateException, IllegalArgumentException {
        needCarousel();
        needDisk(disk);
        needRange(frequency, 1, MOST_FREQUENCY);
        history.remember(now);
        int previous = now.settings.speed[disk];
        now.settings.speed[disk] = frequency;
        program.build(now.settings);
        return previous;
    }

    public int setIndex(int segments, int length) throws IllegalStateException, IllegalArgumentException {
        needCarousel();
        needRange(segments, 0, MOST_SEGMENTS);
        needRange(length, 1, MOST_LENGTH);
        history.remember(now);
        now.settings.segments = segments;
        now.settings.length = length;
        program.build(now.settings);
        return program.cycle;
    }

    public int moveItem(int item, int disk) throws IllegalStateException, IllegalArgumentException {
        needCarousel();
        needItem(item);
        needDisk(disk);
        history.remember(now);
        int previous = now.settings.disk[item];
        now.settings.disk[item] = disk;
        program.build(now.settings);
        return previous;
    }

    public int repair() throws IllegalStateException {
        needCarousel();
        history.remember(now);
        return mend(now.settings, program);
    }

    public int applyTiers(int k) throws IllegalStateException, IllegalArgumentException {
        needCarousel();
        needRange(k, 1, now.settings.disks);
        if (now.settings.items < k) {
            return NOTHING;
        }
        divideInThought(k);
        history.remember(now);
        int moved = tiers.applyBest(now.settings, k);
        program.build(now.settings);
        return moved;
    }

    // ---- settings

    public int itemValue(int item, int what) throws IllegalStateException, IllegalArgumentException {
        needCarousel();
        needItem(item);
        needRange(what, 0, 2);
        switch (what) {
            case 0:
                return now.settings.popularity[item];
            case 1:
                return now.settings.disk[item];
            default:
                return now.settings.bound[item];
        }
    }

    public int frequency(int disk) throws IllegalStateException, IllegalArgumentException {
        needCarousel();
        needDisk(disk);
        return now.settings.speed[disk];
    }

    public int itemsOf(int disk) throws IllegalStateException, IllegalArgumentException {
        needCarousel();
        needDisk(disk);
        int set = 0;
        for (int item = 0; item < now.settings.items; item++) {
            if (now.settings.disk[item] == disk) {
                set |= 1 << item;
            }
        }
        return set;
    }

    // ---- the program

    public int cycle() throws IllegalStateException {
        needCarousel();
        return program.cycle;
    }

    public int slotAt(int time) throws IllegalStateException, IllegalArgumentException {
        needCarousel();
        needRange(time, 0, LAST_TIME);
        return program.contentAt(time, now.settings.items);
    }

    public int occurrences(int item) throws IllegalStateException, IllegalArgumentException {
        needCarousel();
        needItem(item);
        return program.slots[item];
    }

    public int emptySlots() throws IllegalStateException {
        needCarousel();
        int empty = program.dataSlots;
        for (int item = 0; item < now.settings.items; item++) {
            empty -= program.slots[item];
        }
        return empty;
    }

    public int gap(int item) throws IllegalStateException, IllegalArgumentException {
        needCarousel();
        needItem(item);
        return program.widestGap(item);
    }

    public int violations() throws IllegalStateException {
        needCarousel();
        return program.violators(now.settings);
    }

    public int nextTime(int item, int time) throws IllegalStateException, IllegalArgumentException {
        needCarousel();
        needItem(item);
        needRange(time, 0, LAST_TIME);
        return program.firstFrom(item, time);
    }

    public double share(int item) throws IllegalStateException, IllegalArgumentException {
        needCarousel();
        needItem(item);
        return perSlot(program.slots[item]);
    }

    // ---- access

    public int accessTime(int item, int time) throws IllegalStateException, IllegalArgumentException {
        needCarousel();
        needItem(item);
        needRange(time, 0, LAST_TIME);
        return program.waitFor(item, time);
    }

    public int tuningTime(int item, int time) throws IllegalStateException, IllegalArgumentException {
        needCarousel();
        needItem(item);
        needRange(time, 0, LAST_TIME);
        return program.listeningFor(item, time);
    }

    public int worstAccess(int item) throws IllegalStateException, IllegalArgumentException {
        needCarousel();
        needItem(item);
        int worst = 0;
        for (int time = 0; time < program.cycle; time++) {
            worst = Math.max(worst, program.waitFor(item, time));
        }
        return worst;
    }

    public long weight(int factor) throws IllegalStateException, IllegalArgumentException {
        needCarousel();
        needRange(factor, 0, MOST_FACTOR);
        return program.weigh(now.settings, factor);
    }

    public double meanAccess(int item) throws IllegalStateException, IllegalArgumentException {
        needCarousel();
        needItem(item);
        return perSlot(program.waitSum(item));
    }

    public int bestSegments(int factor) throws IllegalStateException, IllegalArgumentException {
        needCarousel();
        needRange(factor, 0, MOST_FACTOR);
        trial.copyFrom(now.settings);
        int best = 0;
        long leastWeight = 0;
        int leastCycle = 1;
        for (int segments = 0; segments <= MOST_SEGMENTS; segments++) {
            trial.segments = segments;
            trialProgram.build(trial);
            long weight = trialProgram.weigh(trial, factor);
            if (segments == 0 || weight * leastCycle < leastWeight * trialProgram.cycle) {
                best = segments;
                leastWeight = weight;
                leastCycle = trialProgram.cycle;
            }
        }
        return best;
    }

    public int worstTime(int set) throws IllegalStateException, IllegalArgumentException {
        needCarousel();
        needSet(set, MOST_ITEMS);
        int worst = 0;
        int longest = 0;
        for (int time = 0; time < program.cycle; time++) {
            int sum = waitsFor(set, time);
            if (sum > longest) {
                longest = sum;
                worst = time;
            }
        }
        return worst;
    }

    private int waitsFor(int set, int time) {
        int sum = 0;
        for (int item = 0; item < now.settings.items; item++) {
            if (isIn(set, item)) {
                sum += program.waitFor(item, time);
            }
        }
        return sum;
    }

    public int leastWorth() throws IllegalStateException {
        needCarousel();
        int least = 0;
        for (int item = 1; item < now.settings.items; item++) {
            int worth = now.settings.popularity[item] * program.slots[least];
            if (worth < now.settings.popularity[least] * program.slots[item]) {
                least = item;
            }
        }
        return least;
    }

    // ---- tiers and repair, in thought

    public int itemRank(int place)
            throws IllegalStateException, IllegalArgumentException, NoSuchElementException {
        needCarousel();
        needPlace(place, now.settings.items);
        tiers.rank(now.settings);
        return tiers.items[place];
    }

    public int diskRank(int place)
            throws IllegalStateException, IllegalArgumentException, NoSuchElementException {
        needCarousel();
        needPlace(place, now.settings.disks);
        tiers.rank(now.settings);
        return tiers.disks[place];
    }

    public int tierSize(int k, int tier) throws IllegalStateException, IllegalArgumentException {
        needCarousel();
        needRange(k, 1, now.settings.disks);
        needRange(tier, 0, k - 1);
        if (now.settings.items < k) {
            return NOTHING;
        }
        divideInThought(k);
        return tiers.bestSizes[tier];
    }

    public long tierWeight(int k) throws IllegalStateException, IllegalArgumentException {
        needCarousel();
        needRange(k, 1, now.settings.disks);
        if (now.settings.items < k) {
            return NOTHING;
        }
        divideInThought(k);
        return tiers.bestWeight;
    }

    private void divideInThought(int k) {
        trial.copyFrom(now.settings);
        tiers.findBest(k, trial, trialProgram);
    }

    public int afterRepair() throws IllegalStateException {
        needCarousel();
        trial.copyFrom(now.settings);
        trialProgram.build(trial);
        mend(trial, trialProgram);
        return trialProgram.violators(trial);
    }

    public int bestDisk(int item) throws IllegalStateException, IllegalArgumentException {
        needCarousel();
        needItem(item);
        trial.copyFrom(now.settings);
        int best = 0;
        int fewest = MOST_ITEMS + 1;
        for (int disk = 0; disk < trial.disks; disk++) {
            trial.disk[item] = disk;
            trialProgram.build(trial);
            int violators = Integer.bitCount(trialProgram.violators(trial));
            if (violators < fewest) {
                fewest = violators;
                best = disk;
            }
        }
        return best;
    }

    /** Repairs the settings and the program built from them; returns the number of moves. */
    private static int mend(Settings settings, Program built) {
        for (int moves = 0; moves < MOST_MOVES; moves++) {
            int item = firstToMove(settings, built.violators(settings));
            if (item < 0) {
                return moves;
            }
            settings.disk[item] = settings.fasterDisk(item);
            built.build(settings);
        }
        return MOST_MOVES;
    }

    private static int firstToMove(Settings settings, int violators) {
        for (int item = 0; item < settings.items; item++) {
            if (isIn(violators, item) && settings.fasterDisk(item) >= 0) {
                return item;
            }
        }
        return NOTHING;
    }

    // ---- clients

    public int clientCount() throws IllegalStateException {
        needCarousel();
        return now.listeners;
    }

    public int clientValue(int client, int what) throws IllegalStateException, IllegalArgumentException {
        needCarousel();
        needClient(client);
        needRange(what, 0, 5);
        Client asked = now.clients[client];
        switch (what) {
            case 0:
                return asked.time;
            case 1:
                return asked.hits;
            case 2:
                return asked.misses;
            case 3:
                return asked.waited;
            case 4:
                return asked.listened;
            default:
                return asked.capacity;
        }
    }

    public int cache(int client) throws IllegalStateException, IllegalArgumentException {
        needCarousel();
        needClient(client);
        return now.clients[client].cached;
    }

    public int requests(int client, int item) throws IllegalStateException, IllegalArgumentException {
        needCarousel();
        needClient(client);
        needItem(item);
        return now.clients[client].counts[item];
    }

    public int victim(int client, int item) throws IllegalStateException, IllegalArgumentException {
        needCarousel();
        needClient(client);
        needItem(item);
        if (isIn(now.clients[client].cached, item)) {
            return NOTHING;
        }
        trialClient.copyFrom(now.clients[client]);
        trialClient.note(item);
        return trialClient.admit(item, now.settings);
    }

    public int soonest(int client, int set) throws IllegalStateException, IllegalArgumentException {
        needCarousel();
        needClient(client);
        needSet(set, MOST_ITEMS);
        Client asker = now.clients[client];
        // An item in the cache is there at once: the lowest of those wins before any other.
        int atHand = set & asker.cached;
        return atHand != 0 ? lowestOf(atHand) : nearest(set, asker.time);
    }

    public int hint(int client) throws IllegalStateException, IllegalArgumentException {
        needCarousel();
        needClient(client);
        Client asker = now.clients[client];
        return nearest(asker.cached, asker.time);
    }

    private int lowestOf(int set) {
        for (int item = 0; item < now.settings.items; item++) {
            if (isIn(set, item)) {
                return item;
            }
        }
        return NOTHING;
    }

    /** The item of a set with the least access time, caches left aside. */
    private int nearest(int set, int time) {
        int best = NOTHING;
        int shortest = 0;
        for (int item = 0; item < now.settings.items; item++) {
            if (isIn(set, item)) {
                int wait = program.waitFor(item, time);
                if (best == NOTHING || wait < shortest) {
                    best = item;
                    shortest = wait;
                }
            }
        }
        return best;
    }

    public int planTime(int client, int set) throws IllegalStateException, IllegalArgumentException {
        needCarousel();
        needClient(client);
        needSet(set, MOST_PLANNED);
        plan.find(now.clients[client], set, now.settings, program);
        return plan.bestTime;
    }

    public int planItem(int client, int set, int place) throws IllegalStateException, IllegalArgumentException {
        needCarousel();
        needClient(client);
        needSet(set, MOST_PLANNED);
        needNotNegative(place);
        if (place >= Integer.bitCount(set) || place >= MOST_PLANNED) {
            return NOTHING;
        }
        plan.find(now.clients[client], set, now.settings, program);
        return plan.best[place];
    }

    public int undo() throws IllegalStateException {
        needCarousel();
        if (history.remembered == 0) {
            return NOTHING;
        }
        history.restore(now);
        program.build(now.settings);
        return history.remembered;
    }

    // ---- what arguments must be

    private void needCarousel() throws IllegalStateException {
        if (!loaded) {
            throw new IllegalStateException("no carousel");
        }
    }

    private static void needRange(int value, int low, int high) throws IllegalArgumentException {
        if (value < low || value > high) {
            throw new IllegalArgumentException("an argument is out of its range");
        }
    }

    private static void needNotNegative(int value) throws IllegalArgumentException {
        if (value < 0) {
            throw new IllegalArgumentException("an argument is negative");
        }
    }

    private void needItem(int item) throws IllegalArgumentException {
        needRange(item, 0, now.settings.items - 1);
    }

    private void needDisk(int disk) throws IllegalArgumentException {
        needRange(disk, 0, now.settings.disks - 1);
    }

    private void needClient(int client) throws IllegalArgumentException {
        needRange(client, 0, now.listeners - 1);
    }

    private void needSet(int set, int most) throws IllegalArgumentException {
        needRange(set, 1, (1 << now.settings.items) - 1);
        needRange(Integer.bitCount(set), 1, most);
    }

    private static void needPlace(int place, int count)
            throws IllegalArgumentException, NoSuchElementException {
        needNotNegative(place);
        if (place >= count) {
            throw new NoSuchElementException("there are not so many");
        }
    }

    // ---- small sums

    private static boolean isIn(int set, int item) {
        return (set >> item & 1) == 1;
    }

    private double perSlot(int sum) {
        int slots = program.cycle;
        return slots > 0 ? (double) sum / (double) slots : 0.0;
    }

    /** The index, the disks and the items: all that the program follows from, and what weighs it. */
    private static final class Settings {
        int segments = 0;
        int length = 1;
        int disks = 0;
        int items = 0;
        final int[] speed = new int[MOST_DISKS];
        final int[] popularity = new int[MOST_ITEMS];
        final int[] disk = new int[MOST_ITEMS];
        final int[] bound = new int[MOST_ITEMS];

        void addDisk(int frequency) {
            if (disks < MOST_DISKS) {
                speed[disks] = frequency;
                disks++;
            }
        }

        void addItem(int itsPopularity, int itsDisk, int itsBound) {
            if (items < MOST_ITEMS) {
                popularity[items] = itsPopularity;
                disk[items] = itsDisk;
                bound[items] = itsBound;
                items++;
            }
        }

        void copyFrom(Settings other) {
            segments = other.segments;
            length = other.length;
            disks = other.disks;
            items = other.items;
            System.arraycopy(other.speed, 0, speed, 0, MOST_DISKS);
            System.arraycopy(other.popularity, 0, popularity, 0, MOST_ITEMS);
            System.arraycopy(other.disk, 0, disk, 0, MOST_ITEMS);
            System.arraycopy(other.bound, 0, bound, 0, MOST_ITEMS);
        }

        /** The frequency of the disk of an item. */
        int speedOf(int item) {
            int home = disk[item];
            return home >= 0 && home < disks ? speed[home] : 1;
        }

        /** The disk to which a repair would move an item; negative if there is none. */
        int fasterDisk(int item) {
            int own = speedOf(item);
            int found = NOTHING;
            int slowest = MOST_FREQUENCY + 1;
            for (int d = 0; d < disks; d++) {
                if (speed[d] > own && speed[d] < slowest) {
                    found = d;
                    slowest = speed[d];
                }
            }
            return found;
        }
    }

    /**
     * The times of all segments and items in one cycle. An item has as many slots as its disk has
     * frequency, so that these few times say more, and sooner, than the row of all slots would.
     */
    private static final class Program {
        int cycle = 1;
        int dataSlots = 1;
        int segments = 0;
        int length = 1;
        final int[] starts = new int[MOST_SEGMENTS];
        final int[] slots = new int[MOST_ITEMS];
        final int[][] times = new int[MOST_ITEMS][MOST_FREQUENCY];

        // By disk; of use only while the program is built.
        private int rounds = 1;
        private int roundLength = 1;
        private final int[] members = new int[MOST_DISKS];
        private final int[] chunk = new int[MOST_DISKS];
        private final int[] offset = new int[MOST_DISKS];

        void build(Settings s) {
            countMembers(s);
            countRounds(s);
            cutChunks(s);
            dataSlots = Math.max(1, rounds * roundLength);
            segments = s.segments;
            length = s.length;
            cycle = dataSlots + segments * length;
            for (int k = 0; k < segments && k < MOST_SEGMENTS; k++) {
                starts[k] = k * dataSlots / segments + k * length;
            }
            placeItems(s);
        }

        private void countMembers(Settings s) {
            for (int d = 0; d < MOST_DISKS; d++) {
                members[d] = 0;
            }
            for (int item = 0; item < s.items; item++) {
                int d = s.disk[item];
                if (d >= 0 && d < MOST_DISKS) {
                    members[d]++;
                }
            }
        }

        private void countRounds(Settings s) {
            rounds = 1;
            for (int d = 0; d < s.disks; d++) {
                if (members[d] > 0) {
                    rounds = commonMultiple(rounds, s.speed[d]);
                }
            }
        }

        private static int commonMultiple(int a, int b) {
            for (int factor = 1; factor < b; factor++) {
                if (a * factor % b == 0) {
                    return a * factor;
                }
            }
            return a * b;
        }

        private void cutChunks(Settings s) {
            roundLength = 0;
            for (int d = 0; d < s.disks; d++) {
                int chunks = s.speed[d] > 0 ? rounds / s.speed[d] : 0;
                // The rounds are a multiple of used disks' frequencies alone.
                boolean used = members[d] > 0 && chunks > 0;
                chunk[d] = used ? (members[d] + chunks - 1) / chunks : 0;
                offset[d] = roundLength;
                roundLength += chunk[d];
            }
        }

        private void placeItems(Settings s) {
            // From here on the members are those that still await their place.
            for (int item = s.items - 1; item >= 0; item--) {
                int d = s.disk[item];
                if (d >= 0 && d < MOST_DISKS) {
                    members[d]--;
                    placeItem(item, d, s.speed[d]);
                }
            }
        }

        private void placeItem(int item, int d, int speed) {
            if (chunk[d] < 1 || speed < 1 || speed > MOST_FREQUENCY) {
                return;
            }
            int first = members[d] / chunk[d];
            int column = offset[d] + members[d] % chunk[d];
            int step = rounds / speed;
            slots[item] = speed;
            for (int n = 0; n < speed; n++) {
                times[item][n] = timeOf((first + n * step) * roundLength + column);
            }
        }

        private int timeOf(int dataSlot) {
            if (segments == 0 || dataSlots < 1) {
                return dataSlot;
            }
            // Segment k stands before this slot if k * dataSlots / segments is at most dataSlot,
            // that is, if k * dataSlots is below (dataSlot + 1) * segments.
            int before = ((dataSlot + 1) * segments - 1) / dataSlots + 1;
            return dataSlot + before * length;
        }

        private int inCycle(int time) {
            return cycle > 0 ? Math.floorMod(time, cycle) : 0;
        }

        int contentAt(int time, int items) {
            int slot = inCycle(time);
            for (int k = 0; k < segments; k++) {
                if (starts[k] <= slot && slot < starts[k] + length) {
                    return FIRST_INDEX_SLOT - (slot - starts[k]);
                }
            }
            for (int item = 0; item < items; item++) {
                if (isOnAir(item, slot)) {
                    return item;
                }
            }
            return NOTHING;
        }

        private boolean isOnAir(int item, int slot) {
            for (int n = 0; n < slots[item]; n++) {
                if (times[item][n] == slot) {
                    return true;
                }
            }
            return false;
        }

        private boolean isStart(int slot) {
            for (int k = 0; k < segments; k++) {
                if (starts[k] == slot) {
                    return true;
                }
            }
            return false;
        }

        /** The time of the first slot with an item from a time on. */
        int firstFrom(int item, int time) {
            int slot = inCycle(time);
            for (int n = 0; n < slots[item]; n++) {
                if (times[item][n] >= slot) {
                    return time + times[item][n] - slot;
                }
            }
            return time + times[item][0] + cycle - slot;
        }

        /** The time of the first start of a segment from a slot of the cycle on. */
        private int startFrom(int slot) {
            for (int k = 0; k < segments; k++) {
                if (starts[k] >= slot) {
                    return starts[k];
                }
            }
            return starts[0] + cycle;
        }

        /** The access time. */
        int waitFor(int item, int time) {
            int slot = inCycle(time);
            int from = slot;
            if (segments > 0 && !isOnAir(item, slot)) {
                from = startFrom(slot) + length;
            }
            return firstFrom(item, from) - slot + 1;
        }

        /** The tuning time. */
        int listeningFor(int item, int time) {
            int slot = inCycle(time);
            if (segments == 0) {
                return firstFrom(item, slot) - slot + 1;
            }
            if (isOnAir(item, slot)) {
                return 1;
            }
            return isStart(slot) ? length + 1 : length + 2;
        }

        int widestGap(int item) {
            int widest = 0;
            int previous = lastTime(item) - cycle;
            for (int n = 0; n < slots[item]; n++) {
                widest = Math.max(widest, times[item][n] - previous);
                previous = times[item][n];
            }
            return widest;
        }

        private int lastTime(int item) {
            return slots[item] > 0 ? times[item][slots[item] - 1] : 0;
        }

        int violators(Settings s) {
            int set = 0;
            for (int item = 0; item < s.items; item++) {
                if (s.bound[item] > 0 && widestGap(item) > s.bound[item]) {
                    set |= 1 << item;
                }
            }
            return set;
        }

        long weigh(Settings s, int factor) {
            long weight = 0;
            for (int item = 0; item < s.items; item++) {
                int waits = waitSum(item);
                long sum = waits + (long) factor * listeningSum(item, waits);
                weight += s.popularity[item] * sum;
            }
            return weight;
        }

        /** The sum of the access times of an item over one cycle. */
        int waitSum(int item) {
            return segments > 0 ? waitSumByIndex(item) : waitSumByGaps(item);
        }

        private int waitSumByGaps(int item) {
            int sum = 0;
            int previous = lastTime(item) - cycle;
            for (int n = 0; n < slots[item]; n++) {
                int gap = times[item][n] - previous;
                sum += gap * (gap + 1) / 2;
                previous = times[item][n];
            }
            return sum;
        }

        /**
         * All who begin behind one start, up to the next one, wait for the same slot, but for
         * those who begin at the item itself: they are counted like the others and then corrected.
         */
        private int waitSumByIndex(int item) {
            int sum = 0;
            int passed = 0;
            int previous = starts[segments - 1] - cycle;
            for (int k = 0; k < segments; k++) {
                int firstPassed = passed;
                int passedTimes = 0;
                while (passed < slots[item] && times[item][passed] < starts[k]) {
                    passedTimes += times[item][passed];
                    passed++;
                }
                int target = passed < slots[item] ? times[item][passed] : times[item][0] + cycle;
                int span = starts[k] - previous;
                sum += span * (target - starts[k] + 1) + span * (span - 1) / 2;
                sum -= (passed - firstPassed) * target - passedTimes;
                previous = starts[k];
            }
            // Behind the last segment the index of the next cycle would have been waited for.
            for (int n = passed; n < slots[item]; n++) {
                sum -= times[item][0] + cycle - times[item][n];
            }
            return sum;
        }

        /** The sum of the tuning times of an item over one cycle; that of its access times is given. */
        private int listeningSum(int item, int waits) {
            if (segments == 0) {
                return waits;
            }
            int others = cycle - slots[item] - segments;
            return slots[item] + segments * (length + 1) + others * (length + 2);
        }
    }

    /** A client with its cache and all that its requests have left behind. */
    private static final class Client {
        int capacity = 0;
        int policy = LRU;
        int time = 0;
        int hits = 0;
        int misses = 0;
        int waited = 0;
        int listened = 0;
        int cached = 0;
        int asked = 0;
        final int[] counts = new int[MOST_ITEMS];
        final int[] lastAsked = new int[MOST_ITEMS];

        void start(int itsCapacity, int itsPolicy) {
            capacity = itsCapacity;
            policy = itsPolicy;
            time = 0;
            hits = 0;
            misses = 0;
            waited = 0;
            listened = 0;
            cached = 0;
            asked = 0;
            for (int item = 0; item < MOST_ITEMS; item++) {
                counts[item] = 0;
                lastAsked[item] = 0;
            }
        }

        void copyFrom(Client other) {
            capacity = other.capacity;
            policy = other.policy;
            time = other.time;
            hits = other.hits;
            misses = other.misses;
            waited = other.waited;
            listened = other.listened;
            cached = other.cached;
            asked = other.asked;
            System.arraycopy(other.counts, 0, counts, 0, MOST_ITEMS);
            System.arraycopy(other.lastAsked, 0, lastAsked, 0, MOST_ITEMS);
        }

        /** A request; returns the access time, 0 for a hit. */
        int ask(int item, Settings s, Program p) {
            note(item);
            if (isIn(cached, item)) {
                hits++;
                return 0;
            }
            int wait = p.waitFor(item, time);
            misses++;
            waited += wait;
            listened += p.listeningFor(item, time);
            time += wait;
            admit(item, s);
            return wait;
        }

        void note(int item) {
            asked++;
            counts[item]++;
            lastAsked[item] = asked;
        }

        /** Takes an item that was noted into the cache; returns the one removed for it. */
        int admit(int item, Settings s) {
            cached |= 1 << item;
            if (Integer.bitCount(cached) <= capacity) {
                return NOTHING;
            }
            int removed = item;
            for (int other = 0; other < s.items; other++) {
                if (isIn(cached, other) && isWorthLess(other, removed, s)) {
                    removed = other;
                }
            }
            cached &= ~(1 << removed);
            return removed;
        }

        private boolean isWorthLess(int a, int b, Settings s) {
            if (policy == PIX) {
                int difference = s.popularity[a] * s.speedOf(b) - s.popularity[b] * s.speedOf(a);
                return difference != 0 ? difference < 0 : a < b;
            }
            if (policy == LFU && counts[a] != counts[b]) {
                return counts[a] < counts[b];
            }
            return lastAsked[a] < lastAsked[b];
        }
    }

    /** All that an action may change. */
    private static final class State {
        final Settings settings = new Settings();
        int listeners = 0;
        final Client[] clients = new Client[MOST_CLIENTS];

        State() {
            for (int c = 0; c < MOST_CLIENTS; c++) {
                clients[c] = new Client();
            }
        }

        void clear() {
            settings.disks = 0;
            settings.items = 0;
            listeners = 0;
        }

        void addClient(int capacity, int policy) {
            if (listeners < MOST_CLIENTS) {
                clients[listeners].start(capacity, policy);
                listeners++;
            }
        }

        void copyFrom(State other) {
            settings.copyFrom(other.settings);
            listeners = other.listeners;
            for (int c = 0; c < listeners && c < MOST_CLIENTS; c++) {
                clients[c].copyFrom(other.clients[c]);
            }
        }
    }

    /** The states before the latest actions, in a ring. */
    private static final class History {
        int remembered = 0;
        private int next = 0;
        private final State[] ring = new State[MOST_REMEMBERED];

        History() {
            for (int n = 0; n < MOST_REMEMBERED; n++) {
                ring[n] = new State();
            }
        }

        void forget() {
            remembered = 0;
        }

        void remember(State state) {
            ring[next].copyFrom(state);
            next = next + 1 < MOST_REMEMBERED ? next + 1 : 0;
            remembered = Math.min(remembered + 1, MOST_REMEMBERED);
        }

        void restore(State state) {
            next = next > 0 ? next - 1 : MOST_REMEMBERED - 1;
            remembered--;
            state.copyFrom(ring[next]);
        }
    }

    /** The rankings, and the best division of the items into tiers. */
    private static final class Tiers {
        final int[] items = new int[MOST_ITEMS];
        final int[] disks = new int[MOST_DISKS];
        final int[] bestSizes = new int[MOST_DISKS];
        long bestWeight = 0;
        private int bestCycle = 1;
        private final int[] sizes = new int[MOST_DISKS];

        void rank(Settings s) {
            rankByValue(s.popularity, s.items, items);
            rankByValue(s.speed, s.disks, disks);
        }

        private static void rankByValue(int[] values, int count, int[] ranking) {
            for (int n = 0; n < count; n++) {
                int place = n;
                while (place > 0 && values[ranking[place - 1]] < values[n]) {
                    ranking[place] = ranking[place - 1];
                    place--;
                }
                ranking[place] = n;
            }
        }

        /** Tries every division on the settings and the program given, which it leaves changed. */
        void findBest(int k, Settings s, Program p) {
            rank(s);
            startSizes(k, s.items);
            boolean more = true;
            for (int n = 0; n < MOST_DIVISIONS && more; n++) {
                assign(sizes, k, s);
                p.build(s);
                long weight = p.weigh(s, 0);
                if (n == 0 || weight * bestCycle < bestWeight * p.cycle) {
                    bestWeight = weight;
                    bestCycle = p.cycle;
                    System.arraycopy(sizes, 0, bestSizes, 0, MOST_DISKS);
                }
                more = nextSizes(k);
            }
        }

        /** Moves the items by the best division found; returns how many changed their disk. */
        int applyBest(Settings s, int k) {
            return assign(bestSizes, k, s);
        }

        private void startSizes(int k, int count) {
            for (int tier = 0; tier < k; tier++) {
                sizes[tier] = 1;
            }
            sizes[k - 1] = count - k + 1;
        }

        /** Goes on to the lexicographically next sizes with the same sum; false behind the last. */
        private boolean nextSizes(int k) {
            int behind = sizes[k - 1];
            for (int tier = k - 2; tier >= 0; tier--) {
                int tiersBehind = k - 1 - tier;
                if (behind > tiersBehind) {
                    sizes[tier]++;
                    for (int later = tier + 1; later < k - 1; later++) {
                        sizes[later] = 1;
                    }
                    sizes[k - 1] = behind - tiersBehind;
                    return true;
                }
                behind += sizes[tier];
            }
            return false;
        }

        private int assign(int[] tierSizes, int k, Settings s) {
            int moved = 0;
            int place = 0;
            for (int tier = 0; tier < k; tier++) {
                for (int n = 0; n < tierSizes[tier] && place < s.items; n++) {
                    int item = items[place];
                    if (s.disk[item] != disks[tier]) {
                        s.disk[item] = disks[tier];
                        moved++;
                    }
                    place++;
                }
            }
            return moved;
        }
    }

    /** The best order of several requests of a client. */
    private static final class Plan {
        int bestTime = 0;
        final int[] best = new int[MOST_PLANNED];
        private int count = 0;
        private final int[] order = new int[MOST_PLANNED];
        private final Client scratch = new Client();

        void find(Client client, int set, Settings s, Program p) {
            firstOrder(set, s.items);
            boolean more = true;
            for (int n = 0; n < MOST_ORDERS && more; n++) {
                int time = timeAfter(client, s, p);
                if (n == 0 || time < bestTime) {
                    bestTime = time;
                    System.arraycopy(order, 0, best, 0, MOST_PLANNED);
                }
                more = nextOrder();
            }
        }

        private void firstOrder(int set, int items) {
            count = 0;
            for (int item = 0; item < items && count < MOST_PLANNED; item++) {
                if (isIn(set, item)) {
                    order[count] = item;
                    count++;
                }
            }
        }

        // The requests are really made, on a copy: one of them may drive another item of the set
        // out of the cache.
        private int timeAfter(Client client, Settings s, Program p) {
            scratch.copyFrom(client);
            for (int n = 0; n < count; n++) {
                scratch.ask(order[n], s, p);
            }
            return scratch.time;
        }

        /** Goes on to the lexicographically next order; false behind the last one. */
        private boolean nextOrder() {
            for (int place = count - 2; place >= 0; place--) {
                if (order[place] < order[place + 1]) {
                    int other = count - 1;
                    while (other > place + 1 && order[other] < order[place]) {
                        other--;
                    }
                    swap(place, other);
                    reverseFrom(place + 1);
                    return true;
                }
            }
            return false;
        }

        private void reverseFrom(int place) {
            int low = place;
            int high = count - 1;
            while (low < high) {
                swap(low, high);
                low++;
                high--;
            }
        }

        private void swap(int a, int b) {
            int item = order[a];
            order[a] = order[b];
            order[b] = item;
        }
    }

    /** Reads a carousel text. Tokens are read from left to right, so the first error found counts. */
    private static final class Parser {
        private static final int WRONG_TOKEN = 1;
        private static final int WRONG_NUMBER = 2;
        private static final int ONE_TOO_MANY = 3;

        private static final int END = 0;
        private static final int WORD = 1;
        private static final int NUMBER = 2;
        private static final int SEMICOLON = 3;
        private static final int UNKNOWN = 4;

        private static final int MOST_DIGITS = 4;

        private byte[] text = new byte[0];
        private int length = 0;
        private int error = 0;

        // The present token; the one with an error stays present, so that its start can be told.
        int start = 0;
        private int end = 0;
        private int kind = END;
        private int value = 0;

        /** Returns 0, or the code of the error, which is at the start of the present token. */
        int read(byte[] bytes, int count, State into) {
            text = bytes;
            length = Math.min(count, bytes.length);
            error = 0;
            end = 0;
            into.clear();
            advance();
            readIndex(into.settings);
            readDisks(into.settings);
            readItems(into.settings);
            readClients(into);
            if (kind != END) {
                fail(WRONG_TOKEN);
            }
            return error;
        }

        private void readIndex(Settings s) {
            begins("index", 0, 1, 1);
            s.segments = takeNumber(0, MOST_SEGMENTS);
            s.length = takeNumber(1, MOST_LENGTH);
            takeSemicolon();
        }

        private void readDisks(Settings s) {
            for (int n = 0; n <= MOST_DISKS; n++) {
                if (!begins("disk", n, 1, MOST_DISKS)) {
                    return;
                }
                int speed = takeNumber(1, MOST_FREQUENCY);
                takeSemicolon();
                s.addDisk(speed);
            }
        }

        private void readItems(Settings s) {
            for (int n = 0; n <= MOST_ITEMS; n++) {
                if (!begins("item", n, 1, MOST_ITEMS)) {
                    return;
                }
                int popularity = takeNumber(0, MOST_POPULARITY);
                int disk = takeNumber(0, s.disks - 1);
                int bound = takeNumber(0, MOST_BOUND);
                takeSemicolon();
                s.addItem(popularity, disk, bound);
            }
        }

        private void readClients(State into) {
            for (int n = 0; n <= MOST_CLIENTS; n++) {
                if (!begins("client", n, 0, MOST_CLIENTS)) {
                    return;
                }
                int capacity = takeNumber(0, MOST_CAPACITY);
                int policy = takePolicy();
                takeSemicolon();
                into.addClient(capacity, policy);
            }
        }

        /** Takes the keyword of one more statement, of which there are some already, if it stands here. */
        private boolean begins(String keyword, int already, int least, int most) {
            if (already >= least && !isWord(keyword)) {
                return false;
            }
            if (already >= most) {
                fail(ONE_TOO_MANY);
            } else if (isWord(keyword)) {
                advance();
            } else {
                fail(WRONG_TOKEN);
            }
            return error == 0;
        }

        private int takeNumber(int low, int high) {
            int number = value;
            if (kind != NUMBER) {
                fail(WRONG_TOKEN);
            } else if (number < low || number > high) {
                fail(WRONG_NUMBER);
            } else {
                advance();
            }
            return number;
        }

        private int takePolicy() {
            int policy = isWord("lfu") ? LFU : isWord("pix") ? PIX : LRU;
            if (policy == LRU && !isWord("lru")) {
                fail(WRONG_TOKEN);
            } else {
                advance();
            }
            return policy;
        }

        private void takeSemicolon() {
            if (kind == SEMICOLON) {
                advance();
            } else {
                fail(WRONG_TOKEN);
            }
        }

        private void fail(int code) {
            if (error == 0) {
                error = code;
            }
        }

        private boolean isWord(String word) {
            if (kind != WORD || end - start != word.length()) {
                return false;
            }
            for (int n = 0; n < word.length(); n++) {
                if (byteAt(start + n) != word.charAt(n)) {
                    return false;
                }
            }
            return true;
        }

        /** The byte at a position; -1 at the end of the text. */
        private int byteAt(int position) {
            return position >= 0 && position < length && position < text.length ? text[position] & 255 : -1;
        }

        private void advance() {
            if (error != 0) {
                return;
            }
            start = end;
            while (start < length && isBlank(byteAt(start))) {
                start++;
            }
            end = start;
            value = 0;
            int first = byteAt(start);
            if (first < 0) {
                kind = END;
            } else if (isLetter(first)) {
                readWord();
            } else if (isDigit(first)) {
                readNumber();
            } else {
                kind = first == ';' ? SEMICOLON : UNKNOWN;
                end = start + 1;
            }
        }

        private void readWord() {
            kind = WORD;
            while (end < length && isLetter(byteAt(end))) {
                end++;
            }
        }

        private void readNumber() {
            while (end < length && isDigit(byteAt(end))) {
                if (end - start < MOST_DIGITS) {
                    value = value * 10 + byteAt(end) - '0';
                }
                end++;
            }
            kind = end - start <= MOST_DIGITS ? NUMBER : UNKNOWN;
        }

        private static boolean isBlank(int sign) {
            return sign == ' ' || sign == '\n';
        }

        private static boolean isLetter(int sign) {
            return sign >= 'a' && sign <= 'z';
        }

        private static boolean isDigit(int sign) {
            return sign >= '0' && sign <= '9';
        }
    }
}
