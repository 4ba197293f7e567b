import java.util.Arrays;

/**
 * The Term UNPACKING FAILS, clause by clause: a stream that just does not fail, and one that does.
 * Check.fails looks also that text, stream and counts are what they were.
 */
public final class FailsTest {
    private static final String FORTY = "0123456789ABCDEFGHIJKLMNOPQRSTUVWXYZ.,;:";
    private static final String LONG = FORTY + "+-*/=<>()[]{}!?abcdefghijklmnopqrstuvwxyz&%#@0123456789ABCDE";

    public static void main(String[] args) {
        streamEnds();
        streamEndsInAField();
        fullStreamEnds();
        bitsNotZero();
        byteFollows();
        tooLongText();
        tooManyLiterals();
        tooLongCopy();
        tooLongWord();
        distanceZero();
        wordNotAsSaid();
        wordNotAsSaidPassedOver();
        symbolNotBelowS();
        symbolTwice();
        runBeyondTheLastSymbol();
        spaceLeft();
        spaceBelowZero();
        soundAfterAFailure();
        Check.finish();
    }

    private static BitsOut coded(int length) {
        return new BitsOut().head(true, true, length).raw("0");
    }

    private static BitsOut behindForty(int length) {
        return new BitsOut().rawBlock(false, FORTY).head(true, true, length).raw("0").simple(8, 0);
    }

    private static void everyPrefixFails(String name, int[] stream) {
        Box x = Check.withStream(stream);
        Check.due(name + " as a whole does not fail", x.unpack() != RingPacker.FAILS, true);
        for (int n = 0; n < stream.length; n++) {
            Check.fails(name + ": the first " + n + " bytes", Arrays.copyOf(stream, n));
        }
    }

    private static void streamEnds() {
        Check.says("UNPACKING FAILS when the stream ends before what is read;");
        Check.fails("no bytes", new int[0]);
        String[] texts = {"", "a", "abc", "that that", "aXaYbYbX", "cacbccab", LONG.substring(0, 96),
            "There is that which their weather is about, from there with the others that have it."};
        for (String text : texts) {
            Box x = Check.withText(text);
            x.pack();
            everyPrefixFails("the stream of \"" + text + "\"", Check.streamOf(x));
        }
    }

    /** Two literal codes written out and a raw block behind them: 200 bytes, and no last block. */
    private static void fullStreamEnds() {
        Check.says("UNPACKING FAILS when the stream ends before what is read;");
        BitsOut bits = new BitsOut().head(false, true, 1).raw("1");
        for (int code = 0; code < 2; code++) {
            bits.raw("0").num(0, 3 * 254).lengths(1, 1);
        }
        bits.simple(5, 8).simple(4, 0).raw("1").rawBlock(false, "xyz");
        Check.due("bits of the stream", bits.length(), 1600);
        Box x = Check.withStream(bits.bytes());
        Check.due("behind 200 bytes", x.unpack(), RingPacker.FAILS);
        new State(new int[0], bits.bytes(), 0, 0, 0, 0).due("after it", x);
        int[] same = new int[200];
        Arrays.fill(same, 64);
        Box y = Check.withStream(same);
        Check.due("200 bytes of 64", y.unpack(), RingPacker.FAILS);
        new State(new int[0], same, 0, 0, 0, 0).due("after them", y);
    }

    /** The same fields behind 6 .. 13 literals of one bit, so that each is cut at each of its bits. */
    private static void streamEndsInAField() {
        Check.says("UNPACKING FAILS when the stream ends before what is read;");
        for (int n = 6; n < 14; n++) {
            everyPrefixFails("empty end behind " + n, new BitsOut().literalsOfOneBit(false, n).raw("11").bytes());
            everyPrefixFails("raw behind " + n,
                new BitsOut().literalsOfOneBit(false, n).rawBlock(true, "\u00ff\u0000\u00ff").bytes());
            everyPrefixFails("simple codes behind " + n, simpleCodes(n).bytes());
            everyPrefixFails("long codes behind " + n, longCodes(n).bytes());
        }
    }

    /** [,y.z;?!] and 9 bytes from 7, by codes of four, three, two and two symbols. */
    private static BitsOut simpleCodes(int n) {
        return new BitsOut().literalsOfOneBit(false, n).head(true, true, 16).raw("1")
            .simple(8, 'z', '!', 'y', '?').simple(8, '.', ',', ';').simple(5, 20, 28).simple(4, 9, 5)
            .raw("1").num(1, 6).num(3, 2).raw("10 10 0 11 11 01 00").raw("1").num(2, 2);
    }

    /** [!%#] and 5 bytes from 8, [$"] and 5 bytes from 4. */
    private static BitsOut longCodes(int n) {
        return new BitsOut().literalsOfOneBit(false, n).head(true, true, 15).raw("0")
            .raw("0").run(18).run(15).lengths(2, 2, 2, 3, 3)
            .raw("0").run(18).lengths(0, 1, 0, 0, 1)
            .raw("0").run(6).lengths(1, 0, 2, 2)
            .raw("0").num(1, 2).raw("00 111 10").raw("11").num(3, 2)
            .raw("0").num(0, 2).raw("110 01").raw("10").num(1, 1);
    }

    private static void bitsNotZero() {
        Check.says("when a bit that must be 0 is not;");
        BitsOut raw = new BitsOut().rawBlock(true, "ab");
        Check.yields("before raw bytes: all 0", "ab", raw);
        for (int bit = 9; bit < 16; bit++) {
            Check.fails("before raw bytes: bit " + bit, raw.bytesTurned(bit));
        }
        BitsOut block = new BitsOut().literalsOfOneBit(true, 8);
        Check.yields("behind a coded block: all 0", "pppppppp", block);
        Check.due("bits left over", -block.length() & 7, 6);
        for (int bit = block.length(); bit % 8 != 0; bit++) {
            Check.fails("behind a coded block: bit " + bit, block.bytesTurned(bit));
        }
        BitsOut empty = new BitsOut().raw("11");
        for (int bit = 2; bit < 8; bit++) {
            Check.fails("behind the empty end: bit " + bit, empty.bytesTurned(bit));
        }
    }

    private static void byteFollows() {
        Check.says("when a byte follows the end;");
        String[] texts = {"", "a", "abc", "that that", "aXaYbYbX", "cacbccab", LONG.substring(0, 96)};
        for (String text : texts) {
            Box x = Check.withText(text);
            x.pack();
            int[] stream = Check.streamOf(x);
            int[] longer = Arrays.copyOf(stream, stream.length + 1);
            Check.fails("0 behind \"" + text + "\"", longer);
            longer[stream.length] = 3;
            Check.fails("3 behind \"" + text + "\"", longer);
        }
    }

    /** Raw bytes up to the block that makes the text too long. */
    private static BitsOut there(int n) {
        return new BitsOut().rawBlock(false, LONG.substring(0, 64)).rawBlock(false, LONG.substring(64, n));
    }

    private static void tooLongText() {
        Check.says("when the text would have more than 96 bytes;");
        String start = LONG.substring(0, 90);
        Check.yields("raw: 96", LONG.substring(0, 96), there(90).rawBlock(true, LONG.substring(90, 96)));
        Check.fails("raw: 97", there(90).rawBlock(true, LONG.substring(90, 97)));
        Check.fails("raw: 154", there(90).rawBlock(true, LONG.substring(0, 64)));
        Check.fails("raw: 97, and then an empty end", there(90).rawBlock(false, LONG.substring(90, 97)).raw("11"));
        Check.fails("raw: a block of one byte behind 96", there(96).rawBlock(true, "!"));
        Check.yields("an empty end behind 96", LONG.substring(0, 96), there(96).raw("11"));
        Check.yields("literals: 96", start + "q".repeat(6),
            there(90).head(true, true, 6).raw("0").simple(8, 'q').simple(5, 24).simple(4, 0).num(0, 6));
        Check.fails("literals: 97",
            there(90).head(true, true, 7).raw("0").simple(8, 'q').simple(5, 24).simple(4, 0).num(1, 6));
        char last = start.charAt(89);
        Check.yields("a copy: 96", start + String.valueOf(last).repeat(6),
            there(90).head(true, true, 6).raw("0").simple(8, 0).simple(5, 4).simple(4, 6).num(0, 2));
        Check.fails("a copy: 97",
            there(90).head(true, true, 7).raw("0").simple(8, 0).simple(5, 4).simple(4, 6).num(1, 2));
        Check.yields("a word: 96", start + "which ",
            there(90).head(true, true, 6).raw("0").simple(8, 0).simple(5, 3).simple(4, 13).num(91 + 8 - 65, 6));
        Check.fails("a word: 97",
            there(91).head(true, true, 6).raw("0").simple(8, 0).simple(5, 3).simple(4, 13).num(92 + 8 - 65, 6));
    }

    private static void tooManyLiterals() {
        Check.says("when literals, a copy or a word would make a block longer than its length;");
        Check.yields("two in a block of 2", "qq", coded(2).simple(8, 'q').simple(5, 16).simple(4, 0).num(0, 2));
        Check.fails("three in a block of 2", coded(2).simple(8, 'q').simple(5, 16).simple(4, 0).num(1, 2));
        Check.fails("two in a block of 1", coded(1).simple(8, 'q').simple(5, 16).simple(4, 0).num(0, 2));
        Check.yields("behind a copy: just so many", "q".repeat(6), copyAndLiterals(6, 0));
        Check.fails("behind a copy: one too many", copyAndLiterals(6, 1));
        Check.fails("behind a copy: three too many", copyAndLiterals(6, 3));
    }

    /** [q] copy 3 from 1, then 2 + more literals at the block's end. */
    private static BitsOut copyAndLiterals(int length, int more) {
        return coded(length).simple(8, 'q').simple(5, 9, 16).simple(4, 0).raw("0").raw("1").num(more, 2);
    }

    private static void tooLongCopy() {
        Check.says("when literals, a copy or a word would make a block longer than its length;");
        for (int m = 2; m <= 5; m++) {
            Check.yields("a copy of " + m + " in a block of as many", FORTY + ":".repeat(m),
                behindForty(m).simple(5, m - 2).simple(4, 6));
            Check.fails("a copy of " + m + " in a block of one less",
                behindForty(m - 1).simple(5, m - 2).simple(4, 6));
        }
        Check.yields("behind literals: just so long", "qqqqq",
            coded(5).simple(8, 'q').simple(5, 17).simple(4, 0).num(0, 2));
        Check.fails("behind literals: a byte too long", coded(4).simple(8, 'q').simple(5, 17).simple(4, 0).num(0, 2));
        Check.fails("behind literals: two bytes too long",
            coded(3).simple(8, 'q').simple(5, 17).simple(4, 0).num(0, 2));
        Check.yields("a second copy: just so long", FORTY + "::::", behindForty(4).simple(5, 0).simple(4, 6));
        Check.fails("a second copy: a byte too long", behindForty(3).simple(5, 0).simple(4, 6));
    }

    private static void tooLongWord() {
        Check.says("when literals, a copy or a word would make a block longer than its length;");
        for (int m = 4; m <= 5; m++) {
            for (int x = 0; x < 16; x++) {
                String word = Model.word(m, x);
                Check.yields(word + " in a block of as many", FORTY + word,
                    behindForty(word.length()).simple(5, m - 2).simple(4, 12).num(8 + x, 5));
                Check.fails(word + " in a block of one less",
                    behindForty(word.length() - 1).simple(5, m - 2).simple(4, 12).num(8 + x, 5));
                Check.fails(word + " in a block of two less",
                    behindForty(word.length() - 2).simple(5, m - 2).simple(4, 12).num(8 + x, 5));
            }
        }
    }

    private static void distanceZero() {
        Check.says("when d would be 0;");
        for (int length = 2; length <= 5; length++) {
            Check.fails("the latest is 1, a copy of " + length,
                behindForty(length).simple(5, length - 2).simple(4, 4));
        }
        Check.fails("where no byte is", coded(4).simple(8, 0).simple(5, 2).simple(4, 4));
        Check.yields("the latest is 2", FORTY + ";:::",
            behindForty(4).simple(5, 0).simple(4, 4, 7).raw("1 0"));
        Check.fails("2, 1 and then 0", behindForty(6).simple(5, 0).simple(4, 4, 7).raw("1 0 0"));
        Check.fails("0, and a copy that fills the block", behindForty(2).simple(5, 0).simple(4, 4, 7).raw("0 1"));
        Check.fails("0, and two copies that fill the block",
            behindForty(4).simple(5, 0).simple(4, 4, 7).raw("0 1 1"));
    }

    private static void wordNotAsSaid() {
        Check.says("when m or x >> 2 of a word is not as said;");
        Check.yields("m is 4, x >> 2 is 3", FORTY + "ave",
            behindForty(3).simple(5, 2).simple(4, 12).num(8 + 15, 5));
        for (int length = 3; length <= 5; length++) {
            Check.fails("m is 4, x >> 2 is 4, in a block of " + length,
                behindForty(length).simple(5, 2).simple(4, 12).num(8 + 16, 5));
        }
        Check.yields("m is 5, x >> 2 is 3", FORTY + "bout",
            behindForty(4).simple(5, 3).simple(4, 12).num(8 + 15, 5));
        for (int length = 4; length <= 6; length++) {
            Check.fails("m is 5, x >> 2 is 4, in a block of " + length,
                behindForty(length).simple(5, 3).simple(4, 12).num(8 + 16, 5));
        }
        for (int length = 2; length <= 4; length++) {
            Check.fails("m is 3, in a block of " + length,
                behindForty(length).simple(5, 1).simple(4, 12).num(8, 5));
        }
        for (int length = 5; length <= 7; length++) {
            Check.fails("m is 6, in a block of " + length,
                behindForty(length).simple(5, 4).simple(4, 12).num(0, 2).num(8, 5));
        }
    }

    /** What follows would fill the block, if the word were passed over. */
    private static void wordNotAsSaidPassedOver() {
        Check.says("when m or x >> 2 of a word is not as said;");
        Check.fails("m is 3, then a copy of 3",
            behindForty(3).simple(5, 1).simple(4, 6, 12).raw("1").num(8, 5).raw("0"));
        Check.fails("m is 2, then a copy of 2",
            behindForty(2).simple(5, 0).simple(4, 6, 12).raw("1").num(8, 5).raw("0"));
        Check.fails("m is 6, then a copy of 6",
            behindForty(6).simple(5, 4).simple(4, 6, 12).num(0, 2).raw("1").num(8, 5).num(0, 2).raw("0"));
        Check.fails("x >> 2 is 4, then a copy of 4",
            behindForty(4).simple(5, 2).simple(4, 6, 12).raw("1").num(24, 5).raw("0"));
        Check.fails("x >> 2 is 4, then a copy of 5",
            behindForty(5).simple(5, 3).simple(4, 6, 12).raw("1").num(24, 5).raw("0"));
        Check.fails("c = 7 where no byte is, then a word",
            coded(4).simple(8, 0).simple(5, 2, 7).simple(4, 6).raw("1 0"));
    }

    private static void symbolNotBelowS() {
        Check.says("when a symbol is not below s, or stands in a simple code twice;");
        for (int kinds = 1; kinds <= 4; kinds++) {
            for (int place = 0; place < kinds; place++) {
                for (int symbol = 13; symbol <= 15; symbol++) {
                    int[] symbols = Arrays.copyOf(new int[] {0, 5, 9, 12}, kinds);
                    symbols[place] = symbol;
                    BitsOut bits = coded(1).simple(8, 'a').simple(5, 8).simple(4, symbols);
                    if (symbol < 14) {
                        Check.yields("13 at place " + place + " of " + kinds, "a", bits);
                    } else {
                        Check.fails(symbol + " at place " + place + " of " + kinds, bits);
                    }
                }
            }
        }
    }

    private static void symbolTwice() {
        Check.says("when a symbol is not below s, or stands in a simple code twice;");
        for (int kinds = 2; kinds <= 4; kinds++) {
            for (int second = 1; second < kinds; second++) {
                for (int first = 0; first < second; first++) {
                    int[] literals = Arrays.copyOf(new int[] {'a', 'b', 'c', 'd'}, kinds);
                    int[] commands = Arrays.copyOf(new int[] {8, 0, 16, 31}, kinds);
                    int[] distances = Arrays.copyOf(new int[] {0, 13, 5, 6}, kinds);
                    literals[second] = literals[first];
                    commands[second] = commands[first];
                    distances[second] = distances[first];
                    String name = "places " + first + " and " + second + " of " + kinds;
                    String word = kinds == 4 ? "00" : "0";
                    Check.fails("literals, " + name,
                        coded(1).simple(8, literals).simple(5, 8).simple(4, 0).raw(word));
                    Check.fails("code B, " + name, new BitsOut().head(true, true, 1).raw("1")
                        .simple(8, 'a').simple(8, literals).simple(5, 8).simple(4, 0));
                    Check.fails("commands, " + name,
                        coded(1).simple(8, 'a').simple(5, commands).simple(4, 0).raw(word));
                    Check.fails("distances, " + name, coded(1).simple(8, 'a').simple(5, 8).simple(4, distances));
                }
            }
        }
        Check.yields("the same symbols in other codes", "\u0008",
            coded(1).simple(8, 8, 9).simple(5, 8, 9).simple(4, 8, 9).raw("0 0"));
    }

    private static void runBeyondTheLastSymbol() {
        Check.says("when symbols that do not occur go beyond s - 1,");
        Check.yields("distances: a run up to 12, then 13", "a",
            coded(1).simple(8, 'a').simple(5, 8).raw("0").lengths(1).run(12).lengths(1));
        for (int run = 13; run <= 18; run++) {
            Check.fails("distances: a run of " + run + " from 1 on",
                coded(1).simple(8, 'a').simple(5, 8).raw("0").lengths(1).run(run));
            Check.fails("distances: a run of " + run + " from 1 on, then a symbol",
                coded(1).simple(8, 'a').simple(5, 8).raw("0").lengths(1).run(run).lengths(1));
        }
        Check.yields("commands: a run up to 30, then 31", "a",
            coded(1).simple(8, 'a').raw("0").run(8).lengths(1).run(18).run(4).lengths(1).simple(4, 0).raw("0"));
        for (int run = 5; run <= 18; run++) {
            Check.fails("commands: a run of " + run + " from 27 on",
                coded(1).simple(8, 'a').raw("0").run(8).lengths(1).run(18).run(run).simple(4, 0).raw("0"));
            Check.fails("commands: a run of " + run + " from 27 on, then a symbol",
                coded(1).simple(8, 'a').raw("0").run(8).lengths(1).run(18).run(run).lengths(1)
                    .simple(4, 0).raw("0"));
        }
        Check.yields("literals: a run up to 254, then 255", "\u0000",
            literalRuns(3).lengths(1).simple(5, 8).simple(4, 0).raw("0"));
        for (int run = 4; run <= 18; run++) {
            Check.fails("literals: a run of " + run + " from 252 on",
                literalRuns(run).simple(5, 8).simple(4, 0).raw("0"));
            Check.fails("literals: a run of " + run + " from 252 on, then a symbol",
                literalRuns(run).lengths(1).simple(5, 8).simple(4, 0).raw("0"));
        }
    }

    /** Literal 0 of one bit, then runs up to 251, then one more. */
    private static BitsOut literalRuns(int last) {
        BitsOut bits = coded(1).raw("0").lengths(1);
        for (int k = 0; k < 13; k++) {
            bits.run(18);
        }
        return bits.run(17).run(last);
    }

    private static void spaceLeft() {
        Check.says("or all s symbols were gone through while SPACE is above 0,");
        BitsOut[] sound = {distances().lengths(1, 2, 3, 4, 5, 6).lengths(0, 0, 0, 0, 0, 0, 0, 6),
            distances().lengths(3, 3, 4, 4, 4, 4, 4, 4, 4, 4, 4, 4, 4, 4)};
        for (BitsOut bits : sound) {
            Check.yields("distances: SPACE is 0 at the last", "a", bits);
        }
        Check.fails("distances: SPACE is 1",
            distances().lengths(1, 2, 3, 4, 5, 6).lengths(0, 0, 0, 0, 0, 0, 0, 0));
        Check.fails("distances: SPACE is 4",
            distances().lengths(3, 4, 4, 4, 4, 4, 4, 4, 4, 4, 4, 4, 4, 4));
        Check.fails("distances: SPACE is 32", distances().lengths(1).num(0, 3 * 13));
        Check.fails("distances: SPACE is 64", distances().num(0, 3 * 14));
        Check.fails("distances: SPACE is 64, by runs", distances().run(11).run(3));
        BitsOut thirtyTwo = coded(1).simple(8, 'a').raw("0");
        BitsOut thirtyOne = coded(1).simple(8, 'a').raw("0");
        for (int k = 0; k < 32; k++) {
            thirtyTwo.lengths(5);
            thirtyOne.lengths(k < 31 ? 5 : 6);
        }
        Check.yields("commands: SPACE is 0 at the last", "a", thirtyTwo.simple(4, 0).raw("01000"));
        Check.fails("commands: SPACE is 1", thirtyOne.simple(4, 0).raw("01000"));
        BitsOut literals = coded(1).raw("0").lengths(1, 2, 3, 4, 5, 6);
        BitsOut fewer = coded(1).raw("0").lengths(1, 2, 3, 4, 5, 6);
        for (int k = 0; k < 13; k++) {
            literals.run(18);
            fewer.run(18);
        }
        Check.yields("literals: SPACE is 0 at the last", "\u0000",
            literals.run(15).lengths(6).simple(5, 8).simple(4, 0).raw("0"));
        Check.fails("literals: SPACE is 1", fewer.run(15).lengths(0).simple(5, 8).simple(4, 0).raw("0"));
    }

    private static BitsOut distances() {
        return coded(1).simple(8, 'a').simple(5, 8).raw("0");
    }

    private static void spaceBelowZero() {
        Check.says("or SPACE would be below 0.");
        int[] taken = {32, 48, 56, 60, 62, 63};
        for (int n = 1; n <= 6; n++) {
            int left = 64 - taken[n - 1];
            int[] first = Arrays.copyOf(new int[] {1, 2, 3, 4, 5, 6}, n);
            Check.yields("SPACE is " + left + " and becomes 0", "a", distances().lengths(first).lengths(n));
            for (int b = 1; b < n; b++) {
                Check.fails("SPACE is " + left + ", " + b + " bits take more", distances().lengths(first).lengths(b));
            }
        }
        Check.fails("literals", coded(1).raw("0").lengths(1, 2, 1).simple(5, 8).simple(4, 0).raw("0"));
        Check.fails("commands", coded(1).simple(8, 'a').raw("0").run(8).lengths(1, 2, 1).simple(4, 0).raw("0"));
        Check.fails("code B", new BitsOut().head(true, true, 1).raw("1").simple(8, 'a')
            .raw("0").lengths(1, 2, 1).simple(5, 8).simple(4, 0));
    }

    private static void soundAfterAFailure() {
        Check.says("FAILS, changing nothing, when unpacking fails.");
        Box x = Check.withText("aXaYbYbX");
        int size = x.pack();
        State before = State.of(x);
        int last = x.byteAt(size - 1);
        x.poke(size - 1, last | 128);
        Check.failsHere("a bit left over", x);
        x.poke(size - 1, last);
        before.due("after a bit left over", x);
        x.append(0);
        Check.failsHere("a byte behind the end", x);
        x.trim(size);
        before.due("after a byte behind the end", x);
        x.trim(size - 1);
        Check.failsHere("a byte too few", x);
        x.append(last);
        before.due("after a byte too few", x);
        Check.due("the sound stream", x.unpack(), 8);
        before.due("after it", x);
        Check.due("packed again", x.pack(), size);
        before.due("after that", x);
    }
}
