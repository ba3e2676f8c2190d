/** The edges of part 8 and of promise 49: actions and their undoing; and the 512 calls. */
final class UndoEdges {
    private static final String TEXT = "index 2 1;disk 1;disk 2;disk 3;"
            + "item 5 0 4;item 9 1 0;item 3 0 5;item 7 2 0;client 1 lru;client 2 lfu;client 2 pix;";
    private static final String BEFORE = "request(0, 0); request(1, 0); request(1, 1); request(1, 1); request(2, 3)";
    private static final String[] ACTIONS = {
        "request(0, 1)", "think(0, 1)", "setPopularity(0, 99)", "setBound(0, 1)", "setFrequency(0, 5)",
        "setIndex(4, 3)", "moveItem(0, 2)", "repair()", "applyTiers(3)",
    };
    // Actions that leave things as they are, or nearly so.
    private static final String[] IDLE = {
        "request(0, 0)", "request(2, 3)", "setPopularity(0, 5)", "setBound(0, 4)", "setFrequency(0, 1)",
        "setIndex(2, 1)", "moveItem(0, 0)", "request(1, 3)", "think(2, 9999)", "applyTiers(1)",
    };

    private final Edges e;

    UndoEdges(Edges edges) {
        e = edges;
    }

    void look() {
        everyAction();
        everythingAsBefore();
        bufferAndErrorPosition();
        ten();
        latestNotUndone();
        none();
        refusedCallsAreNoActions();
        negativeResults();
        manyCalls();
    }

    private void everyAction() {
        e.part(8, "request, think, setPopularity, setBound, setFrequency, setIndex, moveItem, repair and applyTiers are actions; each action that succeeds can be undone.");
        for (String[] actions : new String[][] {ACTIONS, IDLE}) {
            for (String action : actions) {
                BroadcastCarousel x = Check.with(TEXT);
                e.answers(x, action);
                e.due(x, "undo()", 0);
                e.due(x, "undo()", -2);
            }
        }
    }

    private void everythingAsBefore() {
        e.promise(49, "Everything except the text buffer and errorPosition() is as before that action.");
        for (String[] actions : new String[][] {ACTIONS, IDLE}) {
            for (String action : actions) {
                Scene scene = new Scene(TEXT, BEFORE, "index", "index 1 1;");
                e.alike(action + " and undo()", scene, x -> { }, x -> Calls.make(x, action + "; undo()"));
            }
        }
        String all = String.join(";", ACTIONS);
        e.alike("all actions and undo()", Scene.of(TEXT, ""), x -> { },
                x -> Calls.make(x, all + "; undo()".repeat(ACTIONS.length)));
    }

    private void bufferAndErrorPosition() {
        e.promise(49, "Everything except the text buffer and errorPosition()");
        BroadcastCarousel x = Check.with(TEXT);
        Calls.make(x, "think(0, 5)");
        Check.put(x, "index 9");
        e.due(x, "load()", -12);
        Check.put(x, "index 0 1;disk 1;");
        e.due(x, "undo()", 0);
        e.due(x, "errorPosition()", 6);
        e.due(x, "truncate(17)", 17);
        Check.put(x, "item 1 0 0;");
        e.due(x, "load()", 1);
        e.due(x, "errorPosition()", -1);
    }

    private void ten() {
        e.part(8, "The latest 10 actions are remembered.");
        for (int actions = 1; actions <= 31; actions++) {
            BroadcastCarousel x = Check.with(TEXT);
            for (int n = 1; n <= actions; n++) {
                Calls.make(x, "setBound(0, " + (100 + n) + ")");
            }
            int remembered = Math.min(actions, 10);
            for (int undone = 1; undone <= remembered; undone++) {
                e.due(x, "undo()", remembered - undone);
                e.due(x, "itemValue(0, 2)", actions == undone ? 4 : 100 + actions - undone);
            }
            e.due(x, "undo()", -2);
            e.due(x, "itemValue(0, 2)", actions <= 10 ? 4 : 100 + actions - 10);
        }
        e.promise(49, "Returns the number of actions that can still be undone; -2 if there is no action to undo.");
        BroadcastCarousel mixed = Check.with(TEXT);
        for (int n = 0; n < 11; n++) {
            Calls.make(mixed, ACTIONS[n % 9]);
        }
        for (int left = 9; left >= 0; left--) {
            e.due(mixed, "undo()", left);
        }
        e.due(mixed, "undo()", -2);
        // The first action, a request, is the one that was forgotten.
        e.due(mixed, "requests(0, 1)", 1);
        e.due(mixed, "clientValue(0, 0)", mixed.clientValue(0, 3));
    }

    private void latestNotUndone() {
        e.promise(49, "Undoes the latest action that was not undone yet.");
        BroadcastCarousel x = Check.with(TEXT);
        Calls.make(x, "setBound(0, 101); setBound(0, 102); setBound(0, 103)");
        e.due(x, "undo()", 2);
        e.due(x, "undo()", 1);
        e.due(x, "itemValue(0, 2)", 101);
        // What was undone is gone: the next one to undo is the new action, then the first.
        Calls.make(x, "setBound(0, 104)");
        e.due(x, "undo()", 1);
        e.due(x, "itemValue(0, 2)", 101);
        e.due(x, "undo()", 0);
        e.due(x, "itemValue(0, 2)", 4);
        e.due(x, "undo()", -2);
        Calls.make(x, "setBound(0, 105)");
        e.due(x, "undo()", 0);
        // Full, one undone, one more done: full again.
        for (int n = 1; n <= 12; n++) {
            Calls.make(x, "setBound(0, " + (200 + n) + ")");
        }
        e.due(x, "undo()", 9);
        Calls.make(x, "setBound(0, 300)");
        e.due(x, "undo()", 9);
        e.due(x, "itemValue(0, 2)", 211);
        for (int left = 8; left >= 0; left--) {
            e.due(x, "undo()", left);
        }
        e.due(x, "itemValue(0, 2)", 202);
        e.due(x, "undo()", -2);
    }

    private void none() {
        e.promise(49, "-2 if there is no action to undo.");
        e.refused(Scene.of(TEXT, ""), "undo()", "-2");
        e.refused(new Scene(TEXT, "think(0, 1); undo()", "index 9", "index"), "undo()", "-2");
        e.refused(Scene.of(TEXT, "think(0, 1); think(0, 1); undo(); undo()"), "undo()", "-2");
        // Behind another load() there is nothing to undo; behind one that failed there is.
        BroadcastCarousel x = new Scene(TEXT, "think(0, 1)", "", TEXT).make();
        e.due(x, "load()", 4);
        e.due(x, "undo()", -2);
        BroadcastCarousel y = new Scene(TEXT, "think(0, 1)", "index", "").make();
        e.due(y, "undo()", 0);
    }

    private void refusedCallsAreNoActions() {
        e.part(8, "A method that throws an exception or returns an error changes nothing, except that load() always empties the text buffer.");
        String[] refused = {
            "request(3, 0)", "request(0, 4)", "think(0, 0)", "think(0, 10000)", "setPopularity(0, 100)",
            "setBound(0, 1000)", "setFrequency(0, 7)", "setIndex(9, 1)", "setIndex(1, 5)", "moveItem(0, 3)",
            "applyTiers(4)",
        };
        Scene full = Scene.of(TEXT, BEFORE + "; " + String.join("; ", ACTIONS));
        for (String call : refused) {
            e.refused(full, call);
        }
        e.refused(Scene.of("index 0 1;disk 1;disk 1;item 1 1 0;", "setBound(0, 3)"), "applyTiers(2)", "-2");
    }

    private void negativeResults() {
        e.part(8, "Negative results from -2 on are errors or special results that the method lists.");
        BroadcastCarousel x = Check.with("index 0 1;disk 1;disk 2;item 0 0 0;client 1 lru;");
        for (String call : new String[] {"applyTiers(2)", "tierSize(2, 0)", "tierWeight(2)", "victim(0, 0)",
            "hint(0)", "planItem(0, 1, 1)", "undo()"}) {
            e.due(x, call, -2);
        }
        e.due(Check.with("index 0 1;disk 2;disk 1;item 1 0 0;item 1 1 0;"), "slotAt(3)", -2);
        e.due(Check.with("index 1 4;disk 1;item 1 0 0;"), "slotAt(3)", -6);
        e.due(new BroadcastCarousel(), "load()", -11);
    }

    private void manyCalls() {
        e.opening("An object is used for at most 512 calls after it has been made; what later calls answer is free.");
        BroadcastCarousel x = Check.with("index 0 1;disk 1;item 5 0 0;client 0 lfu;");
        // Three calls of append(), one of truncate() and one of load() were made.
        for (int call = 6; call <= 510; call++) {
            e.due(x, "think(0, 9999)", (call - 5) * 9999);
        }
        e.due(x, "request(0, 0)", 1);
        e.due(x, "clientValue(0, 0)", 505 * 9999 + 1);
        BroadcastCarousel y = Check.with("index 0 1;disk 1;item 5 0 0;item 5 0 0;client 0 lfu;client 1 lru;");
        for (int call = 6; call <= 510; call++) {
            e.due(y, "request(0, " + call % 2 + ")", 1);
        }
        e.due(y, "requests(0, 0)", 253);
        BroadcastCarousel z = Check.with("index 0 1;disk 1;disk 2;item 5 0 0;client 0 lfu;");
        for (int call = 6; call <= 508; call += 3) {
            e.due(z, "moveItem(0, 1)", 0);
            e.due(z, "cycle()", 2);
            e.due(z, "undo()", 0);
        }
    }
}
