/** Promises 13 to 16: coded, copies, words, symbols. */
public final class CountsTest {
    public static void main(String[] args) {
        afterPack();
        afterUnpack();
        onlyPackAndUnpackCount();
        failedUnpackDoesNotCount();
        eachCallCountsAnew();
        Check.finish();
    }

    private static void counts(String name, RingPacker x, int... want) {
        Check.due(name + ": coded, copies, words, symbols", Check.countsOf(x), want);
    }

    private static void afterPack() {
        packed("", 0, 0, 0, 0);
        packed("abc", 0, 0, 0, 0);
        packed("aaaa", 1, 1, 0, 2);
        packed("aaaaa", 1, 1, 0, 3);
        packed("that", 1, 0, 1, 2);
        packed("that that", 1, 1, 1, 4);
        packed("thatbbbb", 1, 1, 1, 4);
        packed("cacbccab", 1, 0, 0, 9);
        packed("a".repeat(60), 2, 2, 0, 5);
        packed("a".repeat(49), 1, 1, 0, 3);
        StringBuilder text = new StringBuilder();
        for (int k = 0; k < 48; k++) {
            text.append((char) (k == 47 ? 0 : k < 3 || k >= 44 ? k % 44 : 5 * k));
        }
        packed(text.toString(), 0, 0, 0, 0);
        packed(text + "thatthat", 1, 1, 1, 4);
    }

    private static void packed(String text, int... want) {
        RingPacker x = Check.withText(Check.bytes(text));
        x.pack();
        counts("pack of \"" + text + "\"", x, want);
        x.clear();
        x.unpack();
        counts("unpack of \"" + text + "\"", x, want);
    }

    private static BitsOut coded(boolean last, int length) {
        return new BitsOut().head(last, true, length).raw("0");
    }

    private static void afterUnpack() {
        unpacked("raw", new BitsOut().rawBlock(true, "abc"), 0, 0, 0, 0);
        unpacked("empty", new BitsOut().raw("11"), 0, 0, 0, 0);
        unpacked("words of no bits", coded(true, 3).simple(8, 'q').simple(5, 16).simple(4, 0).num(1, 2),
            1, 0, 0, 4);
        unpacked("c = 7 has no distance", coded(true, 4).simple(8, 'q').simple(5, 15).simple(4, 0),
            1, 1, 0, 2);
        unpacked("a copy has one", coded(true, 3).simple(8, 'q').simple(5, 8).simple(4, 0), 1, 1, 0, 3);
        unpacked("a word has one", coded(true, 4).simple(8, 'q').simple(5, 2).simple(4, 0), 1, 0, 1, 2);
        unpacked("two coded blocks and a raw one", coded(false, 4).simple(8, 'q').simple(5, 2).simple(4, 0)
            .rawBlock(false, "xy").head(true, true, 4).raw("0").simple(8, 0).simple(5, 0).simple(4, 0),
            2, 2, 1, 6);
    }

    private static void unpacked(String name, BitsOut stream, int... want) {
        RingPacker x = Check.withText(Check.bytes("that that"));
        x.pack();
        Check.setStream(x, stream.bytes());
        Check.due(name + " unpacks", x.unpack() != RingPacker.FAILS, true);
        counts(name, x, want);
    }

    private static void onlyPackAndUnpackCount() {
        RingPacker x = new RingPacker();
        counts("new", x, 0, 0, 0, 0);
        Check.setText(x, Check.bytes("that that"));
        counts("before the first pack", x, 0, 0, 0, 0);
        x.pack();
        counts("packed", x, 1, 1, 1, 4);
        x.clear();
        x.put('a');
        x.poke(0, 0);
        x.append(1);
        x.trim(1);
        counts("other calls leave them", x, 1, 1, 1, 4);
        x.pack();
        counts("packed anew", x, 0, 0, 0, 0);
    }

    private static void failedUnpackDoesNotCount() {
        RingPacker x = Check.withText(Check.bytes("that that"));
        x.pack();
        Check.setStream(x, coded(false, 4).simple(8, 'q').simple(5, 2).simple(4, 0).bytes());
        Check.due("a stream without a last block", x.unpack(), RingPacker.FAILS);
        counts("after a failure", x, 1, 1, 1, 4);
        RingPacker y = new RingPacker();
        Check.due("no stream", y.unpack(), RingPacker.FAILS);
        counts("after a failure of a new object", y, 0, 0, 0, 0);
    }

    private static void eachCallCountsAnew() {
        RingPacker x = Check.withText(Check.bytes("that that"));
        x.pack();
        x.pack();
        counts("packed twice", x, 1, 1, 1, 4);
        x.unpack();
        x.unpack();
        counts("unpacked twice", x, 1, 1, 1, 4);
        int[] stream = Check.streamOf(x);
        x.trim(stream.length - 1);
        Check.due("without its last byte", x.unpack(), RingPacker.FAILS);
        x.append(stream[stream.length - 1]);
        Check.due("with it again", x.unpack(), 9);
        counts("unpacked after a failure", x, 1, 1, 1, 4);
    }
}
