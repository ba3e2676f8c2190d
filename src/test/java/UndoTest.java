/** Promise 49: undo, of each of the nine actions, and of at most ten. */
public final class UndoTest {
    private static final Check check = new Check();
    private static final String TEXT = "index 2 1;disk 1;disk 2;disk 3;"
            + "item 5 0 4;item 9 1 0;item 3 0 5;item 7 2 0;client 1 lru;client 2 lfu;client 2 pix;";

    private interface Action {
        void on(BroadcastCarousel x);
    }

    public static void main(String[] args) {
        nothingToUndo();
        eachAction();
        tenAtMost();
        afterAnUndo();
        errorsAreNoActions();
        bufferAndErrorStay();
        check.end();
    }

    private static void nothingToUndo() {
        check.noCarousel("49: undo() without a carousel", () -> new BroadcastCarousel().undo());
        BroadcastCarousel x = Check.with(TEXT);
        check.due("49: undo() of nothing", -2, x::undo);
        x.think(0, 1);
        check.due("49: undo()", 0, x::undo);
        check.due("49: undo() of nothing", -2, x::undo);
    }

    private static void eachAction() {
        undone("request, a miss", x -> x.request(0, 1));
        undone("request, a hit", x -> x.request(0, 0));
        undone("request with a victim", x -> x.request(1, 3));
        undone("think", x -> x.think(0, 7));
        undone("setPopularity", x -> x.setPopularity(0, 99));
        undone("setPopularity to the same", x -> x.setPopularity(0, 5));
        undone("setBound", x -> x.setBound(0, 99));
        undone("setFrequency", x -> x.setFrequency(0, 5));
        undone("setIndex", x -> x.setIndex(4, 3));
        undone("moveItem", x -> x.moveItem(0, 2));
        undone("moveItem to its own disk", x -> x.moveItem(0, 0));
        undone("repair", x -> x.repair());
        undone("applyTiers", x -> x.applyTiers(3));
    }

    private static void undone(String what, Action action) {
        BroadcastCarousel x = Check.with(TEXT);
        x.request(0, 0);
        x.request(1, 0);
        x.request(1, 1);
        x.request(1, 1);
        String before = Fingerprint.of(x);
        action.on(x);
        check.due("49: undo() of " + what, 4, x::undo);
        check.dueText("49: all is as before " + what, before, Fingerprint.of(x));
        check.due("49: undo() before " + what, 3, x::undo);
    }

    private static void tenAtMost() {
        BroadcastCarousel x = Check.with(TEXT);
        for (int n = 0; n < 25; n++) {
            x.setPopularity(0, n);
        }
        for (int left = 9; left >= 0; left--) {
            int popularity = 14 + left;
            check.due("49: undo()", left, x::undo);
            check.due("49: popularity", popularity, () -> x.itemValue(0, 0));
        }
        check.due("49: the eleventh", -2, x::undo);
        check.due("49: popularity", 14, () -> x.itemValue(0, 0));
    }

    private static void afterAnUndo() {
        BroadcastCarousel x = Check.with(TEXT);
        for (int n = 0; n < 12; n++) {
            x.setBound(0, 100 + n);
        }
        x.undo();
        x.undo();
        x.setBound(0, 500);
        check.due("49: undo()", 8, x::undo);
        check.due("49: bound", 109, () -> x.itemValue(0, 2));
        for (int n = 0; n < 5; n++) {
            x.setBound(0, 200 + n);
        }
        check.due("49: undo()", 9, x::undo);
        check.due("49: bound", 203, () -> x.itemValue(0, 2));
    }

    private static void errorsAreNoActions() {
        BroadcastCarousel x = Check.with(TEXT);
        x.think(0, 5);
        String before = Fingerprint.of(x);
        check.outOfRange("49: think(0, 0)", () -> x.think(0, 0));
        check.outOfRange("49: request(3, 0)", () -> x.request(3, 0));
        check.outOfRange("49: setIndex(9, 1)", () -> x.setIndex(9, 1));
        check.dueText("49: nothing is changed", before, Fingerprint.of(x));
        check.due("49: undo()", 0, x::undo);
        check.due("49: time", 0, () -> x.clientValue(0, 0));
    }

    private static void bufferAndErrorStay() {
        BroadcastCarousel x = Check.with(TEXT);
        x.think(0, 5);
        Check.put(x, "index 9");
        x.load();
        Check.put(x, "index 0 1;disk 1;");
        check.due("49: undo()", 0, x::undo);
        check.due("49: errorPosition() stays", 6, x::errorPosition);
        check.due("49: the buffer stays", 17, () -> x.truncate(17));
        Check.put(x, "item 1 0 0;");
        check.due("49: load()", 1, x::load);
    }
}
