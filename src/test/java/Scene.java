/**
 * How an object is brought into a state, so that it can be made again and again: a text is loaded,
 * calls are made, a wrong text is loaded, and a text is left in the buffer. Each may be empty.
 */
record Scene(String text, String calls, String wrong, String pending) {
    static Scene of(String text, String calls) {
        return new Scene(text, calls, "", "");
    }

    BroadcastCarousel make() {
        BroadcastCarousel x = text.isEmpty() ? new BroadcastCarousel() : Check.with(text);
        Calls.make(x, calls);
        if (!wrong.isEmpty()) {
            Check.put(x, wrong);
            if (x.load() > 0) {
                throw new AssertionError("no wrong text: " + wrong);
            }
        }
        Check.put(x, pending);
        return x;
    }
}
