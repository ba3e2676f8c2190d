/** The answers of many questions that change nothing, as one text. */
final class Fingerprint {
    private Fingerprint() {
    }

    static String of(BroadcastCarousel x) {
        StringBuilder all = new StringBuilder();
        add(all, x::cycle);
        add(all, x::violations);
        add(all, () -> x.weight(3));
        add(all, () -> x.bestSegments(3));
        add(all, x::errorPosition);
        add(all, x::clientCount);
        for (int n = 0; n < 16; n++) {
            int number = n;
            for (int m = 0; m < 6; m++) {
                int what = m;
                add(all, () -> x.itemValue(number, what));
                add(all, () -> x.clientValue(number, what));
                add(all, () -> x.requests(what, number));
                add(all, () -> x.victim(what, number));
            }
            add(all, () -> x.frequency(number));
            add(all, () -> x.cache(number));
        }
        for (int t = 0; t < 60; t++) {
            int time = t;
            add(all, () -> x.slotAt(time));
        }
        return all.toString();
    }

    private static void add(StringBuilder all, Check.Whole whole) {
        all.append(Check.outcome(whole)).append(' ');
    }
}
