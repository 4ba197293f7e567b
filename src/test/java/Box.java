/** A RingPacker with a count of its calls: of what comes after 512 of them the document says nothing. */
final class Box {
    static final int MOST_CALLS = 512;

    private final RingPacker packer = new RingPacker();
    private int calls;

    private RingPacker next() {
        calls++;
        if (calls > MOST_CALLS) {
            Check.due("the calls that a test asks of one object", calls, MOST_CALLS);
        }
        return packer;
    }

    int calls() {
        return calls;
    }

    boolean put(int b) {
        return next().put(b);
    }

    void clear() {
        next().clear();
    }

    int length() {
        return next().length();
    }

    int at(int place) {
        return next().at(place);
    }

    int pack() {
        return next().pack();
    }

    int unpack() {
        return next().unpack();
    }

    int size() {
        return next().size();
    }

    int byteAt(int k) {
        return next().byteAt(k);
    }

    boolean poke(int k, int b) {
        return next().poke(k, b);
    }

    boolean append(int b) {
        return next().append(b);
    }

    boolean trim(int n) {
        return next().trim(n);
    }

    int coded() {
        return next().coded();
    }

    int copies() {
        return next().copies();
    }

    int words() {
        return next().words();
    }

    int symbols() {
        return next().symbols();
    }
}
