import java.util.LinkedHashMap;
import java.util.LinkedHashSet;
import java.util.List;
import java.util.Map;
import java.util.Set;
import java.util.function.Consumer;

/**
 * Looks at answers at the edges that the document names. Each look belongs to the words of the
 * document that were quoted last; end() fails if a sentence was not quoted, or quoted in vain.
 */
final class Edges {
    // What names no edge: what the class is for, and what leads to what follows.
    private static final List<String> PLAIN = List.of(
            "A scheduler for a broadcast carousel: items are sent again and again in one cyclic program that is "
                    + "made from disks of different frequencies, with index segments on the air; clients wait for "
                    + "items and keep some of them in caches.",
            "A carousel text describes the index, the disks, the items and the clients.",
            "Clients request items, popularities, disks and the index are changed, and items that recur too seldom "
                    + "are moved to faster disks.",
            "Queries describe the program, compute access and tuning times, find the best assignment of the items "
                    + "to the disks, the best number of index segments, and the best order of several requests.",
            "A carousel text is a sequence of statements.",
            "Errors.",
            "The constants:",
            "The constructor and the methods follow, a promise each: the signature, then what it does.");

    private final Check check = new Check();
    private final Document document = Document.read();
    private final Map<String, Set<String>> quotes = new LinkedHashMap<>();
    private String quote = "";
    private boolean looked = true;

    void opening(String words) {
        quote(Document.OPENING, words);
    }

    void part(int number, String words) {
        quote(Document.part(number), words);
    }

    void promise(int number, String words) {
        quote(Document.promise(number), words);
    }

    private void quote(String section, String words) {
        needLook();
        quote = section + " \"" + words + "\": ";
        looked = false;
        quotes.computeIfAbsent(section, s -> new LinkedHashSet<>()).add(words);
        check.dueText(quote + "stands in the document", "true", "" + document.says(section, words));
    }

    private void needLook() {
        if (!looked) {
            check.dueText(quote, "looked at", "not looked at");
        }
    }

    private void same(String what, String want, String got) {
        looked = true;
        check.dueText(quote + what, want, got);
    }

    // ---- single answers

    void due(BroadcastCarousel x, String call, long want) {
        same(call, Long.toString(want), Calls.outcome(x, call));
    }

    void due(BroadcastCarousel x, String call, double want) {
        same(call, Double.toString(want), Calls.outcome(x, call));
    }

    void fails(BroadcastCarousel x, String call, String exception) {
        same(call, "throws." + exception, Calls.outcome(x, call));
    }

    void outOfRange(BroadcastCarousel x, String call) {
        fails(x, call, "IllegalArgumentException");
    }

    void noCarousel(BroadcastCarousel x, String call) {
        fails(x, call, "IllegalStateException");
    }

    /** Any answer, but no exception. */
    void answers(BroadcastCarousel x, String call) {
        String outcome = Calls.outcome(x, call);
        same(call, "an answer", outcome.startsWith("throws.") ? outcome : "an answer");
    }

    void equal(String what, long want, long got) {
        same(what, Long.toString(want), Long.toString(got));
    }

    /** The whole program, slot by slot. */
    void slots(BroadcastCarousel x, int... due) {
        due(x, "cycle()", due.length);
        for (int time = 0; time < due.length; time++) {
            due(x, "slotAt(" + time + ")", due[time]);
        }
    }

    // ---- texts

    BroadcastCarousel loads(String text, int items) {
        BroadcastCarousel x = new BroadcastCarousel();
        Check.put(x, text);
        same("load() of " + text, Integer.toString(items), Calls.outcome(x, "load()"));
        same("errorPosition() of " + text, "-1", Calls.outcome(x, "errorPosition()"));
        return x;
    }

    void wrong(String text, int code, int position) {
        BroadcastCarousel x = new BroadcastCarousel();
        Check.put(x, text);
        same("load() of " + text, Integer.toString(-10 - code), Calls.outcome(x, "load()"));
        same("errorPosition() of " + text, Integer.toString(position), Calls.outcome(x, "errorPosition()"));
    }

    // ---- what must leave an object alone

    /** A refused call answers, or throws, what is due, and changes nothing. */
    void refused(Scene scene, String call, String want) {
        same(call, want, Calls.outcome(scene.make(), call));
        changesNothing(scene, call);
    }

    void refused(Scene scene, String call) {
        refused(scene, call, "throws.IllegalArgumentException");
    }

    void changesNothing(Scene scene, String call) {
        alike(call + " changes nothing", scene, x -> { }, x -> Calls.outcome(x, call));
    }

    /** Two objects of a scene are alike in all that can be seen, one behind each of two steps. */
    void alike(String what, Scene scene, Consumer<BroadcastCarousel> one, Consumer<BroadcastCarousel> other) {
        List<String> due = Traces.of(scene, one);
        List<String> got = Traces.of(scene, other);
        for (int n = 0; n < due.size(); n++) {
            same(what + ", trace " + n, due.get(n), got.get(n));
        }
    }

    // ---- the end

    void end() {
        needLook();
        document.sentences().forEach((section, sentences) -> sentences.forEach(sentence -> {
            if (!isPlain(sentence) && !isQuoted(section, sentence)) {
                check.dueText(section + ": " + sentence, "quoted", "not quoted");
            }
        }));
        check.end();
    }

    /** Whether a sentence names no edge; many only say what an answer is called. */
    private static boolean isPlain(String sentence) {
        return PLAIN.contains(sentence) || sentence.matches("Returns (the|an?|number of the) [\\w ]+\\.")
                || sentence.matches("Returns an? (item|disk) of the ranking of the (items|disks) \\(see 7\\)\\.");
    }

    private boolean isQuoted(String section, String sentence) {
        for (String words : quotes.getOrDefault(section, Set.of())) {
            if (sentence.contains(words) || words.contains(sentence)) {
                return true;
            }
        }
        return false;
    }
}
