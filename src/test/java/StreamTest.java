/** Promises 8 to 12: size, byteAt, poke, append, trim. */
public final class StreamTest {
    public static void main(String[] args) {
        appendAndByteAt();
        appendRefuses();
        pokeChangesOneByte();
        trimLeavesTheFirst();
        appendToPackedStream();
        Check.finish();
    }

    private static void appendAndByteAt() {
        RingPacker x = new RingPacker();
        Check.due("append 0", x.append(0), true);
        Check.due("append 255", x.append(255), true);
        Check.due("size", x.size(), 2);
        Check.due("stream", Check.streamOf(x), new int[] {0, 255});
        for (int k : new int[] {-1, 2, 200, Integer.MAX_VALUE, Integer.MIN_VALUE}) {
            Check.due("byteAt(" + k + ")", x.byteAt(k), -1);
        }
        Check.due("append leaves the text", x.length(), 0);
    }

    private static void appendRefuses() {
        RingPacker x = new RingPacker();
        for (int b : new int[] {-1, 256, Integer.MAX_VALUE, Integer.MIN_VALUE}) {
            Check.due("append(" + b + ")", x.append(b), false);
        }
        Check.due("size after refusals", x.size(), 0);
        for (int k = 0; k < 200; k++) {
            Check.due("append number " + k, x.append(k), true);
        }
        Check.due("append a 201st", x.append(1), false);
        Check.due("size when full", x.size(), 200);
        Check.due("byteAt(199)", x.byteAt(199), 199);
        Check.due("byteAt(200) when full", x.byteAt(200), -1);
        Check.due("a full stream of these bytes fails", x.unpack(), RingPacker.FAILS);
    }

    private static void pokeChangesOneByte() {
        RingPacker x = Check.withStream(new int[] {1, 2, 3});
        Check.due("poke(2, 255)", x.poke(2, 255), true);
        Check.due("poke(0, 0)", x.poke(0, 0), true);
        for (int k : new int[] {-1, 3, 200, Integer.MAX_VALUE, Integer.MIN_VALUE}) {
            Check.due("poke(" + k + ", 9)", x.poke(k, 9), false);
        }
        for (int b : new int[] {-1, 256, Integer.MAX_VALUE, Integer.MIN_VALUE}) {
            Check.due("poke(1, " + b + ")", x.poke(1, b), false);
        }
        Check.due("stream after pokes", Check.streamOf(x), new int[] {0, 2, 255});
        Check.due("poke without bytes", new RingPacker().poke(0, 1), false);
    }

    private static void trimLeavesTheFirst() {
        RingPacker x = Check.withStream(new int[] {1, 2, 3});
        for (int n : new int[] {-1, 4, Integer.MAX_VALUE, Integer.MIN_VALUE}) {
            Check.due("trim(" + n + ")", x.trim(n), false);
        }
        Check.due("trim(3)", x.trim(3), true);
        Check.due("stream stays whole", Check.streamOf(x), new int[] {1, 2, 3});
        Check.due("trim(2)", x.trim(2), true);
        Check.due("stream trimmed", Check.streamOf(x), new int[] {1, 2});
        Check.due("byteAt(2) trimmed", x.byteAt(2), -1);
        Check.due("poke(2, 3) trimmed", x.poke(2, 3), false);
        Check.due("trim(3) does not grow", x.trim(3), false);
        Check.due("append after trim", x.append(9), true);
        Check.due("stream appended", Check.streamOf(x), new int[] {1, 2, 9});
        Check.due("trim(0)", x.trim(0), true);
        Check.due("size 0", x.size(), 0);
        Check.due("trim(0) again", x.trim(0), true);
    }

    private static void appendToPackedStream() {
        RingPacker x = Check.withText(Check.bytes("aaaa"));
        int size = x.pack();
        Check.due("append to a packed stream", x.append(200), true);
        Check.due("size after it", x.size(), size + 1);
        Check.due("its last byte", x.byteAt(size), 200);
        Check.due("it does not unpack", x.unpack(), RingPacker.FAILS);
        Check.due("trim it again", x.trim(size), true);
        Check.due("it unpacks", x.unpack(), 4);
        Check.due("pack forgets what was appended", x.append(1) && x.pack() == size, true);
    }
}
