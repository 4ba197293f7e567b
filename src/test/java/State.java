/** All that can be read of an object: its text, its stream and the four counts. */
final class State {
    private static final int[] NOTHING = {};

    final int[] text;
    final int[] stream;
    final int[] counts;

    State(int[] text, int[] stream, int... counts) {
        this.text = text;
        this.stream = stream;
        this.counts = counts;
    }

    static State empty() {
        return new State(NOTHING, NOTHING, 0, 0, 0, 0);
    }

    static State of(Box x) {
        return new State(Check.textOf(x), Check.streamOf(x), Check.countsOf(x));
    }

    /** Reads the object whole, also one place before and one behind what is there. */
    void due(String name, Box x) {
        Check.due(name + ": text", Check.textOf(x), text);
        Check.due(name + ": at(-1)", x.at(-1), -1);
        Check.due(name + ": at(length)", x.at(text.length), -1);
        Check.due(name + ": stream", Check.streamOf(x), stream);
        Check.due(name + ": byteAt(-1)", x.byteAt(-1), -1);
        Check.due(name + ": byteAt(size)", x.byteAt(stream.length), -1);
        Check.due(name + ": coded, copies, words, symbols", Check.countsOf(x), counts);
    }
}
