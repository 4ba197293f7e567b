/** Promises 13 to 16: coded, copies, words, symbols. */
public final class CountsTest {
    public static void main(String[] args) {
        codedBlocks();
        zeroBeforeTheFirst();
        latestPackOrUnpack();
        failedUnpackDoesNotCount();
        otherCallsLeaveThem();
        copiesThatAreNoWords();
        wordsInTheseBlocks();
        symbolsOfCommandsLiteralsDistances();
        symbolsBehindMap();
        wordsOfNoBits();
        blocksThatAreNotCoded();
        Check.finish();
    }

    private static void counts(String name, Box x, int... want) {
        Check.due(name + ": coded, copies, words, symbols", Check.countsOf(x), want);
    }

    /** The counts after pack, and after unpack of that stream by another object. */
    private static void packed(String text, int... want) {
        Box x = Check.withText(text);
        x.pack();
        counts("pack of \"" + text + "\"", x, want);
        Box y = Check.withStream(Check.streamOf(x));
        Check.due("unpack of \"" + text + "\"", y.unpack(), text.length());
        counts("unpack of \"" + text + "\"", y, want);
    }

    private static void unpacked(String name, BitsOut stream, int... want) {
        Box x = Check.withText("that that");
        x.pack();
        Check.setStream(x, stream.bytes());
        Check.due(name + " unpacks", x.unpack() != RingPacker.FAILS, true);
        counts(name, x, want);
    }

    private static BitsOut coded(boolean last, int length) {
        return new BitsOut().head(last, true, length).raw("0");
    }

    private static void codedBlocks() {
        Check.says("How many blocks of the latest pack(), or unpack() that did not fail, were CODED;");
        packed("", 0, 0, 0, 0);
        packed("abc", 0, 0, 0, 0);
        packed("aaaa", 1, 1, 0, 2);
        packed("a".repeat(48), 1, 1, 0, 3);
        packed("a".repeat(49), 1, 1, 0, 3);
        packed("a".repeat(60), 2, 2, 0, 5);
        packed("a".repeat(96), 2, 2, 0, 5);
        unpacked("no block", new BitsOut().raw("11"), 0, 0, 0, 0);
        unpacked("one raw block", new BitsOut().rawBlock(true, "abc"), 0, 0, 0, 0);
        BitsOut many = new BitsOut();
        for (int k = 0; k < 40; k++) {
            many.head(false, true, 1).raw("0").simple(8, 'q').simple(5, 8).simple(4, 0);
        }
        unpacked("forty coded blocks", many.raw("11"), 40, 0, 0, 80);
    }

    private static void zeroBeforeTheFirst() {
        Check.says("0 before the first.");
        Box x = new Box();
        counts("new", x, 0, 0, 0, 0);
        Check.setText(x, Check.bytes("that that"));
        counts("with a text", x, 0, 0, 0, 0);
        Check.setStream(x, coded(true, 4).simple(8, 'q').simple(5, 2).simple(4, 0).bytes());
        counts("with a stream", x, 0, 0, 0, 0);
        x.append(0);
        Check.failsHere("an unpack that fails", x);
        counts("after an unpack that failed", x, 0, 0, 0, 0);
        x.trim(x.size() - 1);
        Check.due("one that does not", x.unpack(), 4);
        counts("after the first that did not", x, 1, 0, 1, 2);
    }

    private static void latestPackOrUnpack() {
        Check.says("How many blocks of the latest pack(), or unpack() that did not fail, were CODED;");
        Box x = Check.withText("that that");
        x.pack();
        counts("packed", x, 1, 1, 1, 4);
        x.pack();
        counts("packed twice", x, 1, 1, 1, 4);
        x.unpack();
        x.unpack();
        counts("unpacked twice", x, 1, 1, 1, 4);
        Check.setText(x, Check.bytes("aaaa"));
        x.pack();
        counts("another text packed", x, 1, 1, 0, 2);
        Check.setStream(x, coded(true, 4).simple(8, 'q').simple(5, 2).simple(4, 0).bytes());
        x.unpack();
        counts("another stream unpacked", x, 1, 0, 1, 2);
        x.clear();
        x.pack();
        counts("no text packed", x, 0, 0, 0, 0);
    }

    private static void failedUnpackDoesNotCount() {
        Check.says("or unpack() that did not fail,");
        Box x = Check.withText("that that");
        x.pack();
        Check.setStream(x, coded(false, 4).simple(8, 'q').simple(5, 2).simple(4, 0).bytes());
        Check.failsHere("a coded block and no last one", x);
        counts("after the failure", x, 1, 1, 1, 4);
        Check.setStream(x, new int[] {3, 0});
        Check.failsHere("an empty stream and a byte", x);
        counts("after that failure", x, 1, 1, 1, 4);
        x.trim(1);
        Check.due("an empty stream", x.unpack(), 0);
        counts("after no failure", x, 0, 0, 0, 0);
    }

    private static void otherCallsLeaveThem() {
        Check.says("How many blocks of the latest pack(), or unpack() that did not fail, were CODED;");
        Box x = Check.withText("that that");
        x.pack();
        x.put('a');
        counts("put", x, 1, 1, 1, 4);
        x.clear();
        counts("clear", x, 1, 1, 1, 4);
        x.poke(0, 0);
        counts("poke", x, 1, 1, 1, 4);
        x.append(1);
        counts("append", x, 1, 1, 1, 4);
        x.trim(0);
        counts("trim", x, 1, 1, 1, 4);
    }

    private static void copiesThatAreNoWords() {
        Check.says("How many copies that were no words stood in these blocks.");
        packed("that", 1, 0, 1, 2);
        packed("that that", 1, 1, 1, 4);
        packed("thatbbbb", 1, 1, 1, 4);
        packed("abcabcXYZXYZ", 1, 2, 0, 9);
        packed("abcdZabcdYabcd", 1, 2, 0, 10);
        // [q] copy 2 from 1 by 0, [q] copy 3 from 1.
        unpacked("from the latest, by 0 and by c = 7",
            coded(true, 7).simple(8, 'q').simple(5, 8, 15).simple(4, 0).raw("0 1"), 1, 2, 0, 5);
        unpacked("31 of them", new BitsOut().rawBlock(false, "q").head(true, true, 62).raw("0")
            .simple(8, 'q').simple(5, 0).simple(4, 0), 1, 31, 0, 62);
        unpacked("none that the block's end leaves out", coded(true, 2).simple(8, 'q').simple(5, 19).simple(4, 0)
            .num(0, 2), 1, 0, 0, 3);
    }

    private static void wordsInTheseBlocks() {
        Check.says("How many words stood in these blocks.");
        packed("thatwithfromhave", 1, 0, 4, 8);
        packed("which there their about ", 1, 0, 4, 8);
        packed("hat", 0, 0, 0, 0);
        packed("where", 1, 0, 1, 3);
        unpacked("a word by a latest distance", coded(true, 4).simple(8, 'q').simple(5, 2).simple(4, 0),
            1, 0, 1, 2);
        unpacked("words of three bytes", coded(true, 6).simple(8, 'q').simple(5, 2).simple(4, 10)
            .num(4, 3).num(7, 3), 1, 0, 2, 4);
    }

    private static void symbolsOfCommandsLiteralsDistances() {
        Check.says("How many code words, of commands, literals and distances, stood in these blocks "
            + "behind their four or three prefix codes");
        packed("cacbccab", 1, 0, 0, 1 + 8);
        packed("aaaaa", 1, 1, 0, 1 + 1 + 1);
        packed("aaaa", 1, 1, 0, 1 + 1);
        packed("aaaaaaab", 1, 1, 0, 2 + 2 + 1);
        unpacked("a literal, a command, no distance at the block's end",
            coded(true, 1).simple(8, 'q').simple(5, 8).simple(4, 0), 1, 0, 0, 2);
        unpacked("the extra bits are no code words",
            coded(true, 20).simple(8, 'p', 'q').simple(5, 29).simple(4, 9).num(1, 6).num(3, 4).raw("0000000")
                .num(0, 2), 1, 1, 0, 1 + 7 + 1);
    }

    private static void symbolsBehindMap() {
        Check.says("behind their four or three prefix codes");
        packed("aXaYbYbX", 1, 0, 0, 1 + 8);
        packed("fVbWbVcXeZfVdUeXdUdUbZcVaVdYeUbUe", 1, 0, 0, 1 + 33);
        unpacked("four codes", new BitsOut().head(true, true, 4).raw("1").simple(8, 'a').simple(8, 'B')
            .simple(5, 16).simple(4, 0).num(2, 2), 1, 0, 0, 1 + 4);
    }

    private static void wordsOfNoBits() {
        Check.says("(words of no bits are counted too).");
        unpacked("a command and 64 literals", coded(true, 64).simple(8, 'q').simple(5, 24).simple(4, 0).num(58, 6),
            1, 0, 0, 1 + 64);
        unpacked("commands and distances", new BitsOut().rawBlock(false, "q").head(true, true, 6).raw("0")
            .simple(8, 0).simple(5, 0).simple(4, 6), 1, 3, 0, 6);
        unpacked("c = 7 has no distance at all", coded(true, 4).simple(8, 'q').simple(5, 15).simple(4, 0),
            1, 1, 0, 2);
        unpacked("a distance of no bits", coded(true, 3).simple(8, 'q').simple(5, 8).simple(4, 0), 1, 1, 0, 3);
    }

    private static void blocksThatAreNotCoded() {
        Check.says("stood in these blocks");
        // Copies and words are found in the first block, but it is written raw: they stand nowhere.
        StringBuilder text = new StringBuilder();
        for (int k = 0; k < 48; k++) {
            text.append((char) (k < 4 || k >= 44 ? k % 44 : 5 * k));
        }
        packed(text.toString(), 0, 0, 0, 0);
        packed(text + "thatthat", 1, 1, 1, 4);
        StringBuilder word = new StringBuilder(text.substring(0, 44)).append("that");
        packed(word.toString(), 0, 0, 0, 0);
        packed("a".repeat(48) + "xyz", 1, 1, 0, 3);
        unpacked("coded, raw, coded", coded(false, 4).simple(8, 'q').simple(5, 2).simple(4, 0)
            .rawBlock(false, "xy").head(true, true, 4).raw("0").simple(8, 0).simple(5, 0).simple(4, 0),
            2, 2, 1, 6);
    }
}
