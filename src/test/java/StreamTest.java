import java.util.Arrays;

/** Promises 8 to 12: size, byteAt, poke, append, trim. */
public final class StreamTest {
    public static void main(String[] args) {
        sizeCountsBytes();
        byteAtHasNoPlaceOutside();
        pokeChangesOneByte();
        pokeRefusesPlaces();
        pokeRefusesWhatIsNoByte();
        pokeIsSeenByUnpack();
        appendAtTheEnd();
        appendWhateverMadeTheStream();
        appendRefusesWhatIsNoByte();
        appendRefusesThe201st();
        fullStreamUnpacks();
        trimLeavesTheFirst();
        trimRefuses();
        trimmedBytesAreGone();
        Check.finish();
    }

    private static Box packedBox() {
        Box x = Check.withText("that that");
        x.pack();
        return x;
    }

    private static int[] row(int n) {
        int[] row = new int[n];
        for (int k = 0; k < n; k++) {
            row[k] = 255 - k;
        }
        return row;
    }

    private static void sizeCountsBytes() {
        Check.says("The number of bytes of the stream.");
        Box x = new Box();
        Check.due("none", x.size(), 0);
        for (int k = 1; k <= 200; k++) {
            x.append(k);
            Check.due("after " + k + " bytes", x.size(), k);
        }
        x.trim(7);
        Check.due("after trim(7)", x.size(), 7);
        x.poke(0, 1);
        Check.due("after poke", x.size(), 7);
        x.put(1);
        x.clear();
        Check.due("put and clear leave it", x.size(), 7);
        Check.due("a pack of no bytes", x.pack(), 1);
        Check.due("makes it 1", x.size(), 1);
        Check.due("unpack leaves it", x.unpack() == 0 ? x.size() : -2, 1);
    }

    private static void byteAtHasNoPlaceOutside() {
        Check.says("Byte k of the stream; -1 when there is none.");
        Check.due("byteAt(0) of none", new Box().byteAt(0), -1);
        Box x = Check.withStream(new int[] {0, 255, 128});
        Check.due("byteAt(0)", x.byteAt(0), 0);
        Check.due("byteAt(1)", x.byteAt(1), 255);
        Check.due("byteAt(2), the last", x.byteAt(2), 128);
        Box full = Check.withStream(row(200));
        Check.due("byteAt(0) of 200", full.byteAt(0), 255);
        Check.due("byteAt(199) of 200", full.byteAt(199), 56);
        for (int k : new int[] {3, 4, 199, 200, 201}) {
            Check.due("byteAt(" + k + ")", x.byteAt(k), -1);
        }
        for (int k : new int[] {200, 201, -1, -2, Integer.MAX_VALUE, Integer.MIN_VALUE}) {
            Check.due("byteAt(" + k + ")", x.byteAt(k), -1);
            Check.due("byteAt(" + k + ") of 200", full.byteAt(k), -1);
        }
    }

    private static void pokeChangesOneByte() {
        Check.says("Byte k of the stream becomes b: true;");
        Box x = packedBox();
        State before = State.of(x);
        int[] stream = before.stream.clone();
        int last = stream.length - 1;
        int[][] rows = {{0, 0}, {0, 255}, {last, 255}, {last, 0}, {2, 77}};
        for (int[] row : rows) {
            Check.due("poke(" + row[0] + ", " + row[1] + ")", x.poke(row[0], row[1]), true);
            stream[row[0]] = row[1];
            new State(before.text, stream, before.counts).due("poked " + row[0] + ", " + row[1], x);
        }
        Box full = Check.withStream(row(200));
        Check.due("poke(199, 1) of 200", full.poke(199, 1), true);
        Check.due("byteAt(199)", full.byteAt(199), 1);
        Check.due("byteAt(198)", full.byteAt(198), 57);
    }

    private static void pokeRefusesPlaces() {
        Check.says("false, changing nothing, when there is no such byte or b is not 0 .. 255.");
        Box none = new Box();
        Check.refuses("poke(0, 1) without bytes", none, () -> none.poke(0, 1));
        for (int k : new int[] {-1, 6, 7, 199, 200, Integer.MAX_VALUE, Integer.MIN_VALUE}) {
            Box x = packedBox();
            Check.due("the stream's bytes", x.size(), 6);
            Check.refuses("poke(" + k + ", 9)", x, () -> x.poke(k, 9));
        }
        Box full = Check.withStream(row(200));
        Check.due("poke(200, 9) of 200", full.poke(200, 9), false);
        Check.due("poke(-1, 9) of 200", full.poke(-1, 9), false);
        new State(new int[0], row(200), 0, 0, 0, 0).due("200 bytes after it", full);
    }

    private static void pokeRefusesWhatIsNoByte() {
        Check.says("false, changing nothing, when there is no such byte or b is not 0 .. 255.");
        for (int b : Check.NO_BYTES) {
            for (int k : new int[] {0, 5, 6}) {
                Box x = packedBox();
                Check.refuses("poke(" + k + ", " + b + ")", x, () -> x.poke(k, b));
            }
        }
    }

    private static void pokeIsSeenByUnpack() {
        Check.says("Byte k of the stream becomes b: true;");
        Box x = Check.withText("abc");
        Check.due("a raw stream", x.pack(), 5);
        Check.due("poke(3, 'B')", x.poke(3, 'B'), true);
        Check.due("the text stays", Check.textOf(x), Check.bytes("abc"));
        Check.due("unpack", x.unpack(), 3);
        Check.due("the text has it", Check.textOf(x), Check.bytes("aBc"));
    }

    private static void appendAtTheEnd() {
        Check.says("Puts a byte at the end of the stream, whatever made it: true;");
        for (int first = 0; first < 256; first += 128) {
            Box x = new Box();
            for (int b = first; b < first + 128; b++) {
                Check.due("append(" + b + ")", x.append(b), true);
                Check.due("byteAt(" + (b - first) + ")", x.byteAt(b - first), b);
            }
            Check.due("size", x.size(), 128);
            Check.due("the first byte is still there", x.byteAt(0), first);
            Check.due("the text stays", x.length(), 0);
        }
    }

    private static void appendWhateverMadeTheStream() {
        Check.says("Puts a byte at the end of the stream, whatever made it: true;");
        Box x = packedBox();
        State before = State.of(x);
        int[] stream = Arrays.copyOf(before.stream, 7);
        stream[6] = 200;
        Check.due("append behind a pack", x.append(200), true);
        new State(before.text, stream, before.counts).due("appended", x);
        Check.due("it does not unpack", x.unpack(), RingPacker.FAILS);
        new State(before.text, stream, before.counts).due("after the failure", x);
        Check.due("trim it again", x.trim(6), true);
        Check.due("it unpacks", x.unpack(), 9);
        before.due("as it was", x);
        Check.due("append behind an unpack", x.append(9), true);
        Check.due("append behind a poke", x.poke(6, 8) && x.append(7), true);
        Check.due("append behind a trim", x.trim(7) && x.append(6), true);
        Check.due("what stands there", new int[] {x.byteAt(5), x.byteAt(6), x.byteAt(7), x.byteAt(8)},
            new int[] {before.stream[5], 8, 6, -1});
        Check.due("pack forgets what was appended", x.pack(), 6);
        before.due("packed again", x);
    }

    private static void appendRefusesWhatIsNoByte() {
        Check.says("false, changing nothing, when b is not 0 .. 255 or 200 bytes are there.");
        for (int b : Check.NO_BYTES) {
            Box x = new Box();
            Check.refuses("append(" + b + ") to no bytes", x, () -> x.append(b));
            Box y = packedBox();
            Check.refuses("append(" + b + ") to a packed stream", y, () -> y.append(b));
        }
        Box x = new Box();
        Check.due("append(0), the least byte", x.append(0), true);
        Check.due("append(255), the greatest", x.append(255), true);
        Check.due("both stand there", Check.streamOf(x), new int[] {0, 255});
    }

    private static void appendRefusesThe201st() {
        Check.says("false, changing nothing, when b is not 0 .. 255 or 200 bytes are there.");
        Box x = Check.withStream(row(199));
        Check.due("size 199", x.size(), 199);
        Check.due("a 200th byte", x.append(56), true);
        for (int b : new int[] {0, 7, 255, 256, -1}) {
            Check.due("a 201st byte " + b, x.append(b), false);
        }
        new State(new int[0], row(200), 0, 0, 0, 0).due("full", x);
        Box y = Check.withStream(row(200));
        Check.due("room again after trim(199)", y.trim(199), true);
        Check.due("for one byte", y.append(3), true);
        Check.due("and no more", y.append(4), false);
        int[] full = row(200);
        full[199] = 3;
        new State(new int[0], full, 0, 0, 0, 0).due("full again", y);
    }

    /** Both literal codes written out symbol by symbol, then a raw block: 200 bytes just so. */
    private static void fullStreamUnpacks() {
        Check.says("STREAM: at most 200 bytes 0 .. 255.");
        BitsOut bits = new BitsOut().head(false, true, 1).raw("1");
        for (int code = 0; code < 2; code++) {
            bits.raw("0").num(0, 3 * 254).lengths(1, 1);
        }
        bits.simple(5, 8).simple(4, 0).raw("1").rawBlock(false, "xy").raw("11");
        Check.due("bytes of the stream", bits.bytes().length, 200);
        Check.yields("200 bytes", "\u00ffxy", bits);
        Box x = Check.withStream(bits.bytes());
        Check.due("trim(199)", x.trim(199), true);
        Check.due("199 of them", x.unpack(), RingPacker.FAILS);
        new State(new int[0], Arrays.copyOf(bits.bytes(), 199), 0, 0, 0, 0).due("after 199 of them", x);
    }

    private static void trimLeavesTheFirst() {
        Check.says("Leaves the first n bytes of the stream: true;");
        Box none = new Box();
        Check.due("trim(0) of no bytes", none.trim(0), true);
        State.empty().due("no bytes trimmed", none);
        Box x = packedBox();
        State before = State.of(x);
        for (int n = 6; n >= 0; n--) {
            Check.due("trim(" + n + ")", x.trim(n), true);
            new State(before.text, Arrays.copyOf(before.stream, n), before.counts)
                .due("trimmed to " + n, x);
        }
        Check.due("trim(0) again", x.trim(0), true);
        Box full = Check.withStream(row(200));
        Check.due("trim(200) of 200", full.trim(200), true);
        Check.due("size", full.size(), 200);
        Check.due("trim(199) of 200", full.trim(199), true);
        Check.due("its last byte", full.byteAt(198), 57);
        Check.due("the byte behind it", full.byteAt(199), -1);
    }

    private static void trimRefuses() {
        Check.says("false, changing nothing, when n is below 0 or above size().");
        Box none = new Box();
        Check.refuses("trim(1) of no bytes", none, () -> none.trim(1));
        Check.refuses("trim(-1) of no bytes", none, () -> none.trim(-1));
        for (int n : new int[] {-1, -2, 7, 8, 200, 201, Integer.MAX_VALUE, Integer.MIN_VALUE}) {
            Box x = packedBox();
            Check.refuses("trim(" + n + ") of 6", x, () -> x.trim(n));
        }
        Box full = Check.withStream(row(200));
        Check.due("trim(201) of 200", full.trim(201), false);
        new State(new int[0], row(200), 0, 0, 0, 0).due("200 bytes after it", full);
    }

    private static void trimmedBytesAreGone() {
        Check.says("Leaves the first n bytes of the stream: true;");
        Box x = Check.withStream(new int[] {1, 2, 3});
        Check.due("trim(2)", x.trim(2), true);
        Check.refuses("trim(3) does not grow", x, () -> x.trim(3));
        Check.refuses("poke(2, 3) of a trimmed byte", x, () -> x.poke(2, 3));
        Check.due("append after trim", x.append(9), true);
        new State(new int[0], new int[] {1, 2, 9}, 0, 0, 0, 0).due("appended", x);
    }
}
