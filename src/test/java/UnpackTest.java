import java.util.Arrays;

/** Promise 7, with streams that were written by hand: what they yield, and where they fail. */
public final class UnpackTest {
    private static final String FORTY = "0123456789ABCDEFGHIJKLMNOPQRSTUVWXYZ.,;:";

    public static void main(String[] args) {
        blocksAndEnds();
        endsFail();
        tooMuchText();
        simpleCodes();
        simpleCodesFail();
        longCodes();
        longCodesFail();
        inserts();
        copyLengths();
        plainDistances();
        ringOfDistances();
        copiesFail();
        wordForms();
        wordsFail();
        mapOfLiterals();
        everyPrefixFails();
        Check.finish();
    }

    private static void yields(String name, String want, BitsOut stream) {
        RingPacker x = Check.withText(Check.bytes("old"));
        Check.setStream(x, stream.bytes());
        Check.due(name + ": unpack()", x.unpack(), want.length());
        Check.due(name + ": text", Check.textOf(x), Check.bytes(want));
        Check.due(name + ": stream stays", Check.streamOf(x), stream.bytes());
    }

    private static void fails(String name, BitsOut stream) {
        fails(name, stream.bytes());
    }

    private static void fails(String name, int[] stream) {
        RingPacker x = Check.withText(Check.bytes("aaaa"));
        x.pack();
        int[] counts = Check.countsOf(x);
        Check.setStream(x, stream);
        Check.due(name + ": unpack()", x.unpack(), RingPacker.FAILS);
        Check.due(name + ": text stays", Check.textOf(x), Check.bytes("aaaa"));
        Check.due(name + ": counts stay", Check.countsOf(x), counts);
        Check.due(name + ": stream stays", Check.streamOf(x), stream);
    }

    private static BitsOut coded(int length) {
        return new BitsOut().head(true, true, length).raw("0");
    }

    /** Behind forty raw bytes: a last coded block without literals, up to its command code. */
    private static BitsOut behindForty(int length) {
        return new BitsOut().rawBlock(false, FORTY).head(true, true, length).raw("0").simple(8, 0);
    }

    private static void blocksAndEnds() {
        yields("empty", "", new BitsOut().raw("11"));
        yields("raw", "abc", new BitsOut().rawBlock(true, "abc"));
        yields("raw, raw", "abcde", new BitsOut().rawBlock(false, "abc").rawBlock(true, "de"));
        yields("raw, then empty", "abc", new BitsOut().rawBlock(false, "abc").raw("11"));
        String long64 = FORTY + FORTY.substring(0, 24);
        yields("raw of 64", long64, new BitsOut().rawBlock(true, long64));
        yields("coded, then empty", "a", new BitsOut().head(false, true, 1).raw("0")
            .simple(8, 'a').simple(5, 8).simple(4, 0).raw("11"));
        yields("a raw block that ends its head at a byte's end", "ab",
            new BitsOut().rawBlock(false, "a").rawBlock(false, "b").raw("11"));
    }

    private static void endsFail() {
        fails("no bytes", new int[0]);
        fails("a byte behind the empty end", new int[] {3, 0});
        fails("a byte behind the last block",
            new BitsOut().rawBlock(true, "abc").num(0, 8));
        for (int bit = 2; bit < 8; bit++) {
            fails("bit " + bit + " left over behind the empty end", new int[] {3 | 1 << bit});
        }
        for (int bit = 9; bit < 16; bit++) {
            int[] stream = new BitsOut().rawBlock(true, "a").bytes();
            stream[1] |= 1 << (bit - 8);
            fails("bit " + bit + " before the raw bytes", stream);
        }
        BitsOut block = coded(4).simple(8, 'a').simple(5, 15).simple(4, 0);
        for (int bit = block.length(); bit % 8 != 0; bit++) {
            int[] stream = block.bytes();
            stream[bit / 8] |= 1 << (bit % 8);
            fails("bit " + bit + " left over behind a coded block", stream);
        }
        fails("no block behind one that is not the last", new BitsOut().rawBlock(false, "abc"));
        fails("raw with too few bytes", new BitsOut().head(true, false, 3).align().num('a', 8).num('b', 8));
        fails("half a head", new int[] {1});
    }

    private static void tooMuchText() {
        String long64 = FORTY + FORTY.substring(0, 24);
        String full = long64 + FORTY.substring(0, 32);
        yields("96 bytes", full,
            new BitsOut().rawBlock(false, long64).rawBlock(true, FORTY.substring(0, 32)));
        fails("97 raw bytes",
            new BitsOut().rawBlock(false, long64).rawBlock(true, FORTY.substring(0, 33)));
        yields("96 bytes with a copy", FORTY + FORTY.substring(0, 23) + "W".repeat(33), copyBehind64(32, 6));
        fails("97 bytes with a copy", copyBehind64(33, 7));
        BitsOut singles = new BitsOut();
        for (char c : full.toCharArray()) {
            singles.rawBlock(false, String.valueOf(c));
        }
        yields("96 blocks of one byte, then the empty end", full, singles.raw("11"));
        fails("a 97th byte in a block of its own", new BitsOut().rawBlock(false, long64)
            .rawBlock(false, FORTY.substring(0, 32)).rawBlock(true, "x"));
    }

    private static BitsOut copyBehind64(int length, int bits) {
        String long64 = FORTY + FORTY.substring(0, 23) + "W";
        return new BitsOut().rawBlock(false, long64).head(true, true, length).raw("0")
            .simple(8, 0).simple(5, 6).simple(4, 6).num(bits, 5);
    }

    private static void simpleCodes() {
        yields("one symbol takes no bits", "aaa",
            coded(3).simple(8, 'a').simple(5, 16).simple(4, 0).num(1, 2));
        yields("two: the words go by the numbers", "abb",
            coded(3).simple(8, 'b', 'a').simple(5, 16).simple(4, 0).num(1, 2).raw("0 1 1"));
        yields("three: the first is short", "caz",
            coded(3).simple(8, 'c', 'z', 'a').simple(5, 16).simple(4, 0).num(1, 2).raw("0 10 11"));
        yields("four: the words go by the numbers", "abcd",
            coded(4).simple(8, 'd', 'b', 'c', 'a').simple(5, 16).simple(4, 0).num(2, 2)
                .raw("00 01 10 11"));
        yields("two commands", "abbbbab",
            coded(7).simple(8, 'a', 'b').simple(5, 31, 16).simple(4, 7)
                .raw("0").num(1, 2).raw("0 1 1").raw("0").num(0, 2).raw("0 1"));
    }

    private static void simpleCodesFail() {
        fails("a distance symbol 14", coded(1).simple(8, 'a').simple(5, 8).simple(4, 14));
        fails("a distance symbol 15", coded(1).simple(8, 'a').simple(5, 8).simple(4, 0, 15));
        yields("a distance symbol 13", "a", coded(1).simple(8, 'a').simple(5, 8).simple(4, 13));
        fails("a literal twice", coded(1).simple(8, 'a', 'a').simple(5, 8).simple(4, 0).raw("0"));
        fails("a literal twice of four",
            coded(1).simple(8, 'a', 'b', 'c', 'a').simple(5, 8).simple(4, 0).raw("00"));
        fails("a command twice", coded(1).simple(8, 'a').simple(5, 8, 9, 8).simple(4, 0).raw("0"));
        fails("a distance twice", coded(1).simple(8, 'a').simple(5, 8).simple(4, 3, 3));
        fails("symbol 0 twice", coded(1).simple(8, 'a').simple(5, 8).simple(4, 0, 0));
    }

    /** The command code is 8 alone here; s = 14 is small enough to write all its symbols out. */
    private static BitsOut distanceCode() {
        return coded(1).simple(8, 'a').simple(5, 8);
    }

    private static void longCodes() {
        yields("two symbols of one bit", "a", distanceCode().raw("0").num(1, 3).num(1, 3));
        yields("the last symbol ends it", "a", distanceCode().raw("0")
            .num(1, 3).raw("111").num(9, 4).num(1, 3));
        yields("zeros one by one", "a", distanceCode().raw("0").num(0, 3 * 12).num(1, 3).num(1, 3));
        yields("a run of 3", "a", distanceCode().raw("0").raw("111 0000").num(1, 3).num(1, 3));
        BitsOut literals = coded(8).raw("0");
        for (int k = 0; k < 5; k++) {
            literals.raw("111 1111");
        }
        literals.raw("111").num(4, 4);
        literals.num(4, 3).num(2, 3).num(4, 3).num(3, 3).num(1, 3);
        yields("words by bits, then by numbers", "eebbddca",
            literals.simple(5, 24).simple(4, 0).num(2, 6).raw("0 0 10 10 110 110 1111 1110"));
        BitsOut six = coded(2).raw("0");
        for (int k = 0; k < 64; k++) {
            six.num(6, 3);
        }
        yields("64 symbols of six bits", "\u0001\u003e",
            six.simple(5, 16).simple(4, 0).num(0, 2).raw("000001 111110"));
        BitsOut last = coded(2).raw("0").num(1, 3);
        for (int k = 0; k < 14; k++) {
            last.raw("111 1111");
        }
        yields("literal 255", "\u00ff\u0000",
            last.num(0, 6).num(1, 3).simple(5, 16).simple(4, 0).num(0, 2).raw("1 0"));
    }

    private static void longCodesFail() {
        fails("SPACE below 0", distanceCode().raw("0").num(2, 3).num(1, 3).num(1, 3));
        fails("SPACE below 0 by little", distanceCode().raw("0").num(1, 3).num(6, 3).num(1, 3));
        fails("all symbols, SPACE left", distanceCode().raw("0").num(1, 3).num(0, 3 * 13).num(0, 30));
        fails("no symbol at all", distanceCode().raw("0").num(0, 3 * 14).num(0, 30));
        fails("a run just to the end", distanceCode().raw("0").num(1, 3).raw("111").num(10, 4).num(0, 30));
        fails("a run beyond the end", distanceCode().raw("0").num(1, 3).raw("111").num(11, 4).num(9, 30));
        fails("a run of 18 beyond the end", distanceCode().raw("0").raw("111 1111").num(9, 30));
        fails("a description without an end", distanceCode().raw("0"));
    }

    private static void inserts() {
        int[][] rows = {{1, 1, 0, 0}, {2, 2, 0, 2}, {5, 2, 3, 2}, {6, 3, 0, 6}, {64, 3, 58, 6}};
        for (int[] row : rows) {
            yields(row[0] + " literals", "q".repeat(row[0]),
                coded(row[0]).simple(8, 'q').simple(5, 8 * row[1]).simple(4, 0).num(row[2], row[3]));
        }
        fails("literals beyond the block", coded(2).simple(8, 'q').simple(5, 16).simple(4, 0).num(1, 2));
        fails("69 literals", coded(64).simple(8, 'q').simple(5, 24).simple(4, 0).num(63, 6));
        yields("copy bits are read before literals, at the block's end too", "ba",
            coded(2).simple(8, 'a', 'b').simple(5, 16 + 5).simple(4, 0).num(0, 2).num(15, 4).raw("1 0"));
        yields("no distance is read at the block's end", "ba",
            coded(2).simple(8, 'a', 'b').simple(5, 16 + 7).simple(4, 0, 1).num(0, 2).raw("1 0"));
    }

    private static void copyLengths() {
        int[][] rows = {{2, 0, 0, 0}, {3, 1, 0, 0}, {4, 2, 0, 0}, {5, 3, 0, 0}, {6, 4, 0, 2}, {9, 4, 3, 2},
            {10, 5, 0, 4}, {25, 5, 15, 4}, {26, 6, 0, 5}, {56, 6, 30, 5}};
        for (int[] row : rows) {
            String want = FORTY + ":".repeat(row[0]);
            yields("a copy of " + row[0], want,
                behindForty(row[0]).simple(5, row[1]).simple(4, 6).num(row[2], row[3]));
            if (row[0] > 2) {
                fails("a copy of " + row[0] + " in a block of one less",
                    behindForty(row[0] - 1).simple(5, row[1]).simple(4, 6).num(row[2], row[3]));
            }
        }
        yields("three at the latest distance", FORTY + ":::", behindForty(3).simple(5, 7).simple(4, 9));
        yields("a copy of 57", "z".repeat(58), coded(58).simple(8, 'z').simple(5, 14).simple(4, 6).num(31, 5));
    }

    private static void plainDistances() {
        int[][] rows = {{1, 6, 0, 0}, {2, 7, 0, 0}, {3, 8, 0, 1}, {4, 8, 1, 1}, {5, 9, 0, 2}, {8, 9, 3, 2},
            {9, 10, 0, 3}, {16, 10, 7, 3}, {17, 11, 0, 4}, {32, 11, 15, 4}, {33, 12, 0, 5}, {40, 12, 7, 5}};
        for (int[] row : rows) {
            yields("distance " + row[0], copied(FORTY, row[0], 2),
                behindForty(2).simple(5, 0).simple(4, row[1]).num(row[2], row[3]));
        }
        String seventy = FORTY + FORTY.substring(0, 30).toLowerCase();
        for (int d : new int[] {65, 70}) {
            yields("distance " + d, copied(seventy, d, 2),
                new BitsOut().rawBlock(false, seventy.substring(0, 64)).rawBlock(false, seventy.substring(64))
                    .head(true, true, 2).raw("0").simple(8, 0).simple(5, 0).simple(4, 13).num(d - 65, 6));
        }
    }

    private static String copied(String text, int d, int m) {
        StringBuilder row = new StringBuilder(text);
        for (int k = 0; k < m; k++) {
            row.append(row.charAt(row.length() - d));
        }
        return row.toString();
    }

    private static void ringOfDistances() {
        int[][] rows = {{0, 1}, {1, 2}, {2, 4}, {3, 8}, {5, 2}};
        for (int[] row : rows) {
            yields("ring symbol " + row[0] + " at first", copied(FORTY, row[1], 2),
                behindForty(2).simple(5, 0).simple(4, row[0]));
        }
        // Symbol 3 again and again: 8, 4, 2, 1 come round, for each goes in front.
        String text = FORTY;
        for (int d : new int[] {8, 4, 2, 1, 8}) {
            text = copied(text, d, 2);
        }
        yields("the fourth goes in front", text, behindForty(10).simple(5, 0).simple(4, 3));
        // Symbol 1: the second goes in front and stays behind the first one too.
        text = FORTY;
        for (int d : new int[] {2, 1, 2, 1}) {
            text = copied(text, d, 2);
        }
        yields("the second goes in front", text, behindForty(8).simple(5, 0).simple(4, 1));
        text = copied(copied(copied(FORTY, 2, 2), 3, 2), 4, 2);
        yields("latest + 1 becomes the latest", text, behindForty(6).simple(5, 0).simple(4, 5));
        // 9, then the latest by symbol 0 (the four stay), then the second.
        text = copied(copied(copied(FORTY, 9, 2), 9, 2), 1, 2);
        yields("symbol 0 leaves the four", text,
            behindForty(6).simple(5, 0).simple(4, 10, 0, 1).raw("0").num(0, 3).raw("10 11"));
        // 9, then c = 7, then the second.
        text = copied(copied(copied(FORTY, 9, 2), 9, 3), 1, 2);
        yields("c = 7 leaves the four", text,
            behindForty(7).simple(5, 0, 7).simple(4, 1, 10).raw("0 1").num(0, 3).raw("1").raw("0 0"));
        // A plain symbol for the latest distance pushes it once more: 1 1 2 4.
        text = copied(copied(FORTY, 1, 2), 4, 2);
        yields("distance 1 by symbol 6 is put in front again", text,
            behindForty(4).simple(5, 0).simple(4, 3, 6).raw("1 0"));
        text = copied(copied(copied(FORTY, 9, 2), 8, 2), 9, 2);
        yields("latest - 1, then the second", text,
            behindForty(6).simple(5, 0).simple(4, 10, 1, 4).raw("0").num(0, 3).raw("11 10"));
        // The ring goes on from block to block, raw ones between them too.
        text = copied(copied(FORTY, 9, 2) + "!", 9, 3);
        yields("the ring goes on in the next block", text,
            new BitsOut().rawBlock(false, FORTY)
                .head(false, true, 2).raw("0").simple(8, 0).simple(5, 0).simple(4, 10).num(0, 3)
                .rawBlock(false, "!")
                .head(true, true, 3).raw("0").simple(8, 0).simple(5, 7).simple(4, 0));
    }

    private static void copiesFail() {
        fails("latest - 1 at first", behindForty(2).simple(5, 0).simple(4, 4));
        fails("c = 7 with no byte before", coded(3).simple(8, 'a').simple(5, 7).simple(4, 0));
        fails("a copy from before the text", coded(2).simple(8, 'a').simple(5, 0).simple(4, 6));
        fails("a copy of 2 at distance 41", behindForty(2).simple(5, 0).simple(4, 12).num(8, 5));
        fails("a copy of 6 at distance 41", behindForty(6).simple(5, 4).simple(4, 12).num(0, 2).num(8, 5));
    }

    private static void wordForms() {
        for (int m = 4; m <= 5; m++) {
            for (int x = 0; x < 16; x++) {
                String word = Model.word(m, x);
                yields("word " + m + " " + x, FORTY + word,
                    behindForty(word.length()).simple(5, m - 2).simple(4, 12).num(8 + x, 5));
                fails("word " + m + " " + x + " beyond the block",
                    behindForty(word.length() - 1).simple(5, m - 2).simple(4, 12).num(8 + x, 5));
            }
        }
        yields("There at the beginning", "There", coded(5).simple(8, 0).simple(5, 3).simple(4, 9).num(1, 2));
        yields("hat at the beginning", "hat", coded(3).simple(8, 0).simple(5, 2).simple(4, 10).num(4, 3));
        yields("a word by the ring: 8 where 2 are there", "!!With",
            coded(6).simple(8, '!').simple(5, 18).simple(4, 3).num(0, 2));
        yields("a word by symbol 0 at the very beginning", "that",
            coded(4).simple(8, 0).simple(5, 2).simple(4, 0));
        yields("a word by latest + 1", "with", coded(4).simple(8, 0).simple(5, 2).simple(4, 5));
        // If the word's distance 3 went into the ring, symbol 0 would say it.
        yields("words leave the four", "from" + "mmmm",
            coded(8).simple(8, 0).simple(5, 2).simple(4, 0, 8).raw("1").num(0, 1).raw("0"));
    }

    private static void wordsFail() {
        fails("form 4", behindForty(4).simple(5, 2).simple(4, 12).num(8 + 16, 5));
        fails("form 4 of five", behindForty(5).simple(5, 3).simple(4, 12).num(8 + 16, 5));
        fails("a great form", behindForty(4).simple(5, 2).simple(4, 13).num(63, 6));
        fails("a word of 3", behindForty(3).simple(5, 1).simple(4, 12).num(8, 5));
        fails("a word of 6", behindForty(6).simple(5, 4).simple(4, 12).num(0, 2).num(8, 5));
        fails("a word of 10", behindForty(10).simple(5, 5).simple(4, 12).num(0, 4).num(8, 5));
        fails("a short word leaves its block unfinished",
            behindForty(4).simple(5, 2).simple(4, 12).num(8 + 12, 5));
    }

    private static void mapOfLiterals() {
        yields("A behind nothing, B behind a and z, A behind others", "a1z2`3{4",
            new BitsOut().head(true, true, 8).raw("1")
                .raw("0").raw("111 1111 111 1111 111").num(51 - 36 - 3, 4).num(3, 3).num(3, 3)
                .raw("111 1111 111 1111").num(0, 3).num(0, 3)
                .raw("111").num(96 - 91 - 3, 4).num(3, 3).num(3, 3)
                .raw("111 1111").raw("111").num(122 - 116 - 3, 4).num(2, 3).num(2, 3)
                .simple(8, '1', '2').simple(5, 24).simple(4, 0).num(2, 6)
                // A: z 00, { 01, 3 100, 4 101, ` 110, a 111
                .raw("111 0 00 1 110 100 01 101"));
        yields("the byte before may be in the block before", "aQ",
            new BitsOut().rawBlock(false, "a").head(true, true, 1).raw("1")
                .simple(8, 'P').simple(8, 'Q').simple(5, 8).simple(4, 0));
        yields("no small letter in the block before", "AP",
            new BitsOut().rawBlock(false, "A").head(true, true, 1).raw("1")
                .simple(8, 'P').simple(8, 'Q').simple(5, 8).simple(4, 0));
    }

    private static void everyPrefixFails() {
        RingPacker x = Check.withText(Check.bytes(
            "There is that which their weather is about, from there with the others that have it."));
        x.pack();
        int[] stream = Check.streamOf(x);
        for (int n = 0; n < stream.length; n++) {
            fails("the first " + n + " bytes", Arrays.copyOf(stream, n));
        }
    }
}
