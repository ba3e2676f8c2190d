import java.util.ArrayList;
import java.util.List;
import java.util.function.Consumer;

/**
 * All that can be seen of an object, as texts: the settings and the program, the clients, the text
 * buffer, what undo() brings back, and what requests answer from now on. Each of these is looked at
 * on an object of its own, as some change it; none makes more than the 512 calls of the document.
 */
final class Traces {
    private static final int BLANKS = 0x20202020;

    private Traces() {
    }

    /** The traces of an object of the scene on which one more step was made. */
    static List<String> of(Scene scene, Consumer<BroadcastCarousel> step) {
        List<Consumer<Trace>> looks = List.of(Traces::settings, Traces::clients, Traces::buffer,
                Traces::history, Traces::requests);
        List<String> traces = new ArrayList<>();
        for (Consumer<Trace> look : looks) {
            BroadcastCarousel x = scene.make();
            step.accept(x);
            Trace trace = new Trace(x);
            look.accept(trace);
            traces.add(trace.text.toString());
        }
        return traces;
    }

    private static final class Trace {
        final BroadcastCarousel x;
        final StringBuilder text = new StringBuilder();

        Trace(BroadcastCarousel x) {
            this.x = x;
        }

        String add(String call) {
            String outcome = Calls.outcome(x, call);
            text.append(call).append(' ').append(outcome).append('\n');
            return outcome;
        }
    }

    private static void settings(Trace t) {
        t.add("errorPosition()");
        t.add("cycle()");
        t.add("emptySlots()");
        t.add("violations()");
        t.add("afterRepair()");
        t.add("clientCount()");
        t.add("weight(7)");
        for (int disk = 0; disk < 4; disk++) {
            t.add("frequency(" + disk + ")");
            t.add("diskRank(" + disk + ")");
        }
        for (int item = 0; item < 16; item++) {
            for (int what = 0; what < 3; what++) {
                t.add("itemValue(" + item + ", " + what + ")");
            }
            t.add("itemRank(" + item + ")");
            t.add("gap(" + item + ")");
            t.add("nextTime(" + item + ", 5)");
            t.add("meanAccess(" + item + ")");
        }
        for (int time = 0; time < 100; time++) {
            t.add("slotAt(" + time + ")");
        }
    }

    private static void clients(Trace t) {
        for (int client = 0; client < 4; client++) {
            for (int what = 0; what < 6; what++) {
                t.add("clientValue(" + client + ", " + what + ")");
            }
            t.add("cache(" + client + ")");
            t.add("hint(" + client + ")");
            for (int item = 0; item < 16; item++) {
                t.add("requests(" + client + ", " + item + ")");
                t.add("victim(" + client + ", " + item + ")");
            }
        }
    }

    private static void buffer(Trace t) {
        t.add("errorPosition()");
        t.text.append(lengthOf(t.x)).append('\n');
        t.add("load()");
        settings(t);
    }

    /** The length of the text buffer, which is left as it is. */
    static int lengthOf(BroadcastCarousel x) {
        String longer = Calls.outcome(x, "append(" + BLANKS + ", 0, 0, 0, 0)");
        if (!longer.startsWith("throws.")) {
            return x.truncate(Integer.parseInt(longer) - 20);
        }
        int length = 500;
        while (Calls.outcome(x, "truncate(" + length + ")").startsWith("throws.")) {
            length--;
        }
        return length;
    }

    private static void history(Trace t) {
        for (int n = 0; n < 11; n++) {
            t.add("undo()");
            t.add("cycle()");
            t.add("weight(1)");
            t.add("violations()");
            for (int number = 0; number < 4; number++) {
                t.add("frequency(" + number + ")");
                t.add("clientValue(" + number + ", 0)");
                t.add("cache(" + number + ")");
                t.add("itemsOf(" + number + ")");
                t.add("itemValue(" + number + ", 0)");
                t.add("itemValue(" + number + ", 2)");
            }
        }
    }

    private static void requests(Trace t) {
        for (int item = 0; item < 16; item++) {
            for (int client = 0; client < 4; client++) {
                t.add("request(" + client + ", " + item + ")");
                t.add("request(" + client + ", " + item / 3 + ")");
                t.add("cache(" + client + ")");
            }
        }
        t.add("clientValue(0, 4)");
        t.add("undo()");
    }
}
