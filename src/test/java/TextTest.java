/** Promises 1 to 5: a new object, put, clear, length, at. */
public final class TextTest {
    public static void main(String[] args) {
        newObject();
        putAndAt();
        putRefuses();
        clearLeavesStream();
        Check.finish();
    }

    private static void newObject() {
        RingPacker x = new RingPacker();
        Check.due("new: length", x.length(), 0);
        Check.due("new: at(0)", x.at(0), -1);
        Check.due("new: size", x.size(), 0);
        Check.due("new: byteAt(0)", x.byteAt(0), -1);
        Check.due("new: counts", Check.countsOf(x), new int[4]);
        Check.due("new: a stream without bytes does not unpack", x.unpack(), RingPacker.FAILS);
    }

    private static void putAndAt() {
        RingPacker x = new RingPacker();
        Check.due("put 0", x.put(0), true);
        Check.due("put 255", x.put(255), true);
        Check.due("put 97", x.put(97), true);
        Check.due("length", x.length(), 3);
        Check.due("text", Check.textOf(x), new int[] {0, 255, 97});
        Check.due("at(3)", x.at(3), -1);
        Check.due("at(-1)", x.at(-1), -1);
        Check.due("at(96)", x.at(96), -1);
        Check.due("at(greatest)", x.at(Integer.MAX_VALUE), -1);
        Check.due("at(least)", x.at(Integer.MIN_VALUE), -1);
        Check.due("put leaves the stream", x.size(), 0);
    }

    private static void putRefuses() {
        RingPacker x = new RingPacker();
        for (int b : new int[] {-1, 256, Integer.MAX_VALUE, Integer.MIN_VALUE}) {
            Check.due("put(" + b + ")", x.put(b), false);
        }
        Check.due("length after refusals", x.length(), 0);
        for (int k = 0; k < 96; k++) {
            Check.due("put number " + k, x.put(k), true);
        }
        Check.due("put a 97th", x.put(5), false);
        Check.due("length when full", x.length(), 96);
        Check.due("at(95)", x.at(95), 95);
        Check.due("at(96) when full", x.at(96), -1);
    }

    private static void clearLeavesStream() {
        RingPacker x = Check.withText(Check.bytes("aaaa"));
        x.pack();
        int[] stream = Check.streamOf(x);
        int[] counts = Check.countsOf(x);
        x.clear();
        Check.due("clear: length", x.length(), 0);
        Check.due("clear: at(0)", x.at(0), -1);
        Check.due("clear: stream stays", Check.streamOf(x), stream);
        Check.due("clear: counts stay", Check.countsOf(x), counts);
        x.clear();
        Check.due("clear twice", x.length(), 0);
        Check.due("put after clear", x.put(7), true);
        Check.due("text after clear", Check.textOf(x), new int[] {7});
    }
}
