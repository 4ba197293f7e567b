import java.util.Arrays;

/** The Term PREFIX CODE, by streams that are unpacked. */
public final class PrefixCodeTest {
    private static final String NINE = "abcdefghi";

    public static void main(String[] args) {
        numbersOfSymbols();
        greatestSymbols();
        oneSymbol();
        twoSymbols();
        threeSymbols();
        fourSymbols();
        simpleCommandsAndDistances();
        numbersOfBits();
        everyNumberOfBits();
        runs();
        spaceEndsIt();
        spaceEndsItAtTheLastSymbol();
        wordsByBitsThenNumbers();
        wordsOfOtherCodes();
        highestBitFirst();
        codesOfTheBlockBefore();
        Check.finish();
    }

    private static BitsOut coded(int length) {
        return new BitsOut().head(true, true, length).raw("0");
    }

    /** A block of n literals by the code that the bits before describe. */
    private static BitsOut literals(BitsOut code, int n, String words) {
        int i = n < 2 ? n : n < 6 ? 2 : 3;
        code.simple(5, 8 * i).simple(4, 0);
        if (i > 1) {
            code.num(n - (i == 2 ? 2 : 6), i == 2 ? 2 : 6);
        }
        return code.raw(words);
    }

    private static void numbersOfSymbols() {
        Check.says("PREFIX CODE over the symbols 0 .. s - 1 "
            + "(s is 256 for literals, 32 for commands, 14 for distances)");
        for (int symbol = 0; symbol < 256; symbol++) {
            Check.yields("literal " + symbol, String.valueOf((char) symbol),
                coded(1).simple(8, symbol).simple(5, 8).simple(4, 0));
        }
        for (int symbol = 8; symbol < 16; symbol++) {
            Check.yields("command " + symbol, "a", coded(1).simple(8, 'a').simple(5, symbol).simple(4, 0)
                .num(0, new int[] {0, 0, 0, 0, 2, 4, 5, 0}[symbol - 8]));
        }
        for (int symbol = 0; symbol < 14; symbol++) {
            Check.yields("distance " + symbol, "a", coded(1).simple(8, 'a').simple(5, 8).simple(4, symbol));
        }
    }

    private static void greatestSymbols() {
        Check.says("SIMPLE 1: count - 1, a number of 2 bits; then the symbols, numbers of 8, 5 or 4 bits.");
        Check.yields("255, 31 and 13", "\u00ff".repeat(6),
            coded(6).simple(8, 255).simple(5, 31).simple(4, 13).num(0, 6));
        Check.yields("0, 0 and 6", "ZZZ", new BitsOut().rawBlock(false, "Z").head(true, true, 2).raw("0")
            .simple(8, 0).simple(5, 0).simple(4, 6));
        // [ff 00] and a copy of 2 from 1: the words are 10 for 16, 11 for 255, 00 for 0 and 01 for 6.
        Check.yields("four of each", "\u00ff\u0000\u0000\u0000",
            coded(4).simple(8, 0, 1, 254, 255).simple(5, 0, 1, 16, 31).simple(4, 0, 6, 12, 13)
                .raw("10").num(0, 2).raw("11 00").raw("01"));
    }

    private static void oneSymbol() {
        Check.says("One symbol: it takes no bits.");
        Check.yields("literals, a command and a distance", "aaaaaa",
            coded(6).simple(8, 'a').simple(5, 18).simple(4, 0).num(0, 2));
        Check.yields("no bit behind the codes but the insert bits", "aaa",
            coded(3).simple(8, 'a').simple(5, 16).simple(4, 0).num(1, 2));
        Check.yields("in code B", "aBaB", new BitsOut().head(true, true, 4).raw("1")
            .simple(8, 'a').simple(8, 'B').simple(5, 16).simple(4, 0).num(2, 2));
        Check.fails("a bit for it, set", coded(1).simple(8, 'a').simple(5, 8).simple(4, 0).raw("1"));
    }

    private static void twoSymbols() {
        Check.says("Two: 1 bit each;");
        Check.yields("by their numbers", "abba", literals(coded(4).simple(8, 'a', 'b'), 4, "0 1 1 0"));
        Check.yields("listed the other way", "abba", literals(coded(4).simple(8, 'b', 'a'), 4, "0 1 1 0"));
    }

    private static void threeSymbols() {
        Check.says("three: the first 1 bit, the others 2;");
        Check.yields("the least first", "abc", literals(coded(3).simple(8, 'a', 'b', 'c'), 3, "0 10 11"));
        Check.yields("the middle one first", "abc", literals(coded(3).simple(8, 'b', 'a', 'c'), 3, "10 0 11"));
        Check.yields("the greatest first", "abc", literals(coded(3).simple(8, 'c', 'a', 'b'), 3, "10 11 0"));
        Check.yields("the others the other way", "abc", literals(coded(3).simple(8, 'c', 'b', 'a'), 3, "10 11 0"));
        Check.yields("the least, the others the other way", "abc",
            literals(coded(3).simple(8, 'a', 'c', 'b'), 3, "0 10 11"));
    }

    private static void fourSymbols() {
        Check.says("four: 2 bits each.");
        int[][] rows = {{'a', 'b', 'c', 'd'}, {'d', 'c', 'b', 'a'}, {'c', 'a', 'd', 'b'}};
        for (int[] row : rows) {
            Check.yields("listed " + (char) row[0] + (char) row[1] + (char) row[2] + (char) row[3], "abcd",
                literals(coded(4).simple(8, row), 4, "00 01 10 11"));
        }
    }

    private static BitsOut behind(int length) {
        return new BitsOut().rawBlock(false, NINE).head(true, true, length).raw("0").simple(8, 0);
    }

    private static String copied(int... distances) {
        StringBuilder text = new StringBuilder(NINE);
        for (int d : distances) {
            text.append(text.charAt(text.length() - d));
            text.append(text.charAt(text.length() - d));
        }
        return text.toString();
    }

    private static void simpleCommandsAndDistances() {
        Check.says("Two: 1 bit each; three: the first 1 bit, the others 2; four: 2 bits each.");
        Check.yields("commands: two", NINE + "i".repeat(4 + 5),
            behind(9).simple(5, 3, 2).simple(4, 6).raw("0 1"));
        Check.yields("commands: three", NINE + "i".repeat(3 + 4 + 5),
            behind(12).simple(5, 3, 1, 2).simple(4, 6).raw("10 11 0"));
        Check.yields("commands: four", NINE + "i".repeat(2 + 3 + 4 + 5),
            behind(14).simple(5, 3, 1, 2, 0).simple(4, 6).raw("00 01 10 11"));
        Check.yields("distances: two", copied(2, 1, 2),
            behind(6).simple(5, 0).simple(4, 7, 6).raw("1 0 1"));
        Check.yields("distances: three", copied(2, 1, 3, 4),
            behind(8).simple(5, 0).simple(4, 8, 7, 6).raw("11 10").raw("0").num(0, 1).raw("0").num(1, 1));
        Check.yields("distances: four", copied(1, 2, 3, 8),
            behind(8).simple(5, 0).simple(4, 9, 6, 8, 7).raw("00 01").raw("10").num(0, 1).raw("11").num(3, 2));
    }

    private static void numbersOfBits() {
        Check.says("0 to 6 is the symbol's number of bits, 0 for a symbol that does not occur;");
        Check.yields("symbols 0 and 1", "\u0000\u0001", literals(coded(2).raw("0").lengths(1, 1), 2, "0 1"));
        Check.yields("one does not occur", "\u0001\u0002", literals(coded(2).raw("0").lengths(0, 1, 1), 2, "0 1"));
        Check.yields("one between them", "\u0000\u0002", literals(coded(2).raw("0").lengths(1, 0, 1), 2, "0 1"));
        Check.yields("five, one by one", "\u0005\u0006",
            literals(coded(2).raw("0").lengths(0, 0, 0, 0, 0, 1, 1), 2, "0 1"));
        Check.yields("254, one by one", "\u00fe\u00ff",
            literals(coded(2).raw("0").num(0, 3 * 254).lengths(1, 1), 2, "0 1"));
    }

    private static void everyNumberOfBits() {
        Check.says("SPACE is 64 at first, and a symbol of b bits takes 64 >> b of it;");
        String seven = "\u0000\u0001\u0002\u0003\u0004\u0005\u0006";
        Check.yields("1 to 6 and 6", seven, literals(coded(7).raw("0").lengths(1, 2, 3, 4, 5, 6, 6), 7,
            "0 10 110 1110 11110 111110 111111"));
        Check.yields("6 and 6 to 1", seven, literals(coded(7).raw("0").lengths(6, 6, 5, 4, 3, 2, 1), 7,
            "111110 111111 11110 1110 110 10 0"));
        for (int b = 1; b <= 6; b++) {
            BitsOut bits = coded(1 << b).raw("0");
            StringBuilder text = new StringBuilder();
            StringBuilder words = new StringBuilder();
            for (int symbol = 0; symbol < 1 << b; symbol++) {
                bits.lengths(b);
                text.append((char) symbol);
                for (int k = b - 1; k >= 0; k--) {
                    words.append(symbol >> k & 1);
                }
            }
            String name = (1 << b) + " symbols of " + b + " bits";
            Check.yields(name, text.toString(), literals(bits, 1 << b, words.toString()));
            Box x = Check.withStream(bits.bytes());
            x.unpack();
            Check.due(name + ", unpacked twice", x.unpack(), 1 << b);
            Check.due(name + ", the text", Check.textOf(x), Check.bytes(text.toString()));
        }
    }

    private static void runs() {
        Check.says("7 means that so many symbols do not occur as a number of 4 bits that follows says, plus 3.");
        for (int run = 3; run <= 18; run++) {
            String pair = "" + (char) (run + 1) + (char) run;
            Check.yields("a run of " + run, pair, literals(coded(2).raw("0").run(run).lengths(1, 1), 2, "1 0"));
            Check.yields("a run of " + run + " between two", (char) (run + 1) + "\u0000",
                literals(coded(2).raw("0").lengths(1).run(run).lengths(1), 2, "1 0"));
            Check.yields("a run of " + run + " behind one of 18", "" + (char) (run + 19) + (char) (run + 18),
                literals(coded(2).raw("0").run(18).run(run).lengths(1, 1), 2, "1 0"));
        }
        Check.yields("a 7 and then zeros", "\u0005\u0006",
            literals(coded(2).raw("0").run(3).lengths(0, 0, 1, 1), 2, "0 1"));
        Check.yields("zeros and then a 7", "\u0005\u0006",
            literals(coded(2).raw("0").lengths(0, 0).run(3).lengths(1, 1), 2, "0 1"));
    }

    private static void spaceEndsIt() {
        Check.says("the description ends when SPACE is 0.");
        int[][] codes = {{1, 1}, {1, 2, 2}, {2, 1, 2}, {2, 2, 1}, {2, 2, 2, 2}, {1, 3, 3, 2}, {3, 3, 3, 3, 1},
            {2, 2, 2, 3, 3}, {4, 4, 3, 2, 1}, {1, 2, 3, 4, 5, 6, 6}, {6, 6, 5, 4, 3, 2, 1}};
        for (int[] code : codes) {
            // The last symbol's word is the space of all that come before it, in steps of its own space.
            int last = code.length - 1;
            int before = 0;
            for (int k = 0; k < last; k++) {
                before += code[k] <= code[last] ? 64 >> code[k] : 0;
            }
            int word = before >> (6 - code[last]);
            StringBuilder bits = new StringBuilder();
            for (int k = code[last] - 1; k >= 0; k--) {
                bits.append(word >> k & 1);
            }
            Check.yields("literals by " + Arrays.toString(code), String.valueOf((char) last),
                literals(coded(1).raw("0").lengths(code), 1, bits.toString()));
            Check.yields("distances by " + Arrays.toString(code), "a",
                coded(1).simple(8, 'a').simple(5, 8).raw("0").lengths(code));
        }
    }

    private static void spaceEndsItAtTheLastSymbol() {
        Check.says("for the symbols from 0 on, numbers of 3 bits:");
        BitsOut literals = coded(2).raw("0").lengths(1);
        for (int k = 0; k < 14; k++) {
            literals.run(18);
        }
        Check.yields("literal 255", "\u00ff\u0000", literals(literals.lengths(0, 0, 1), 2, "1 0"));
        Check.yields("command 31", "qqqqqqq", coded(7).simple(8, 'q')
            .raw("0").run(8).lengths(1).run(18).run(4).lengths(1).simple(4, 0).raw("1").num(1, 6));
        String text = "0123456789".repeat(9).substring(0, 64) + "zyxwvu";
        Check.yields("distance 13", text + text.substring(4, 6), new BitsOut().rawBlock(false, text.substring(0, 64))
            .rawBlock(false, "zyxwvu").head(true, true, 2).raw("0").simple(8, 0).simple(5, 0)
            .raw("0").lengths(1).run(12).lengths(1).raw("1").num(1, 6));
    }

    private static void wordsByBitsThenNumbers() {
        Check.says("The CODE WORDS: all symbols in order of their bits, of as many bits by their numbers;");
        Check.yields("a 4, b 2, c 4, d 3, e 1", "eebbddca", literals(coded(8).raw("0")
            .run(18).run(18).run(18).run(18).run(18).run(7).lengths(4, 2, 4, 3, 1), 8,
            "0 0 10 10 110 110 1111 1110"));
        Check.says("the first one's word is all 0; each other's is the word before it plus 1, "
            + "with 0s put behind to make it as long as it must be.");
        Check.yields("one of 1 bit, eight of 4", "\u0001\u0008\u0000\u0004",
            literals(coded(4).raw("0").lengths(1, 4, 4, 4, 4, 4, 4, 4, 4), 4, "1000 1111 0 1011"));
        Check.yields("one of 1 bit, the last, eight of 4", "\u0000\u0007\u0008\u0004",
            literals(coded(4).raw("0").lengths(4, 4, 4, 4, 4, 4, 4, 4, 1), 4, "1000 1111 0 1100"));
        BitsOut bits = coded(3).raw("0").lengths(1);
        for (int k = 0; k < 32; k++) {
            bits.lengths(6);
        }
        Check.yields("one of 1 bit, 32 of 6", "\u0001\u0020\u0000", literals(bits, 3, "100000 111111 0"));
        Check.yields("two of 2 bits, two of 3, four of 4", "\u0000\u0001\u0002\u0003\u0004\u0005\u0006\u0007",
            literals(coded(8).raw("0").lengths(4, 3, 4, 2, 4, 3, 4, 2), 8,
                "1100 100 1101 00 1110 101 1111 01"));
    }

    private static void wordsOfOtherCodes() {
        Check.says("The CODE WORDS: all symbols in order of their bits, of as many bits by their numbers;");
        Check.yields("commands", NINE + "i".repeat(2 + 3 + 4 + 5 + 6), behind(20).raw("0")
            .lengths(2, 2, 2, 3, 3).simple(4, 6).raw("00 01 10 110 111").num(0, 2));
        Check.yields("distances", copied(1, 2, 4, 8, 9), behind(10).simple(5, 0).raw("0").run(6)
            .lengths(2, 2, 2, 3, 3).raw("00 01").raw("10").num(1, 1).raw("110").num(3, 2).raw("111").num(0, 3));
        Check.yields("code B", "aBaCaDaEaF", new BitsOut().head(true, true, 10).raw("1").simple(8, 'a')
            .raw("0").run(18).run(18).run(18).run(12).lengths(2, 2, 2, 3, 3).simple(5, 24).simple(4, 0)
            .num(4, 6).raw("00 01 10 110 111"));
    }

    private static void highestBitFirst() {
        Check.says("A word stands in the stream with its highest bit first.");
        Check.yields("01 and 10", "bc", literals(coded(2).simple(8, 'a', 'b', 'c', 'd'), 2, "01 10"));
        Check.yields("110 and 011", "\u0006\u0003",
            literals(coded(2).raw("0").lengths(3, 3, 3, 3, 3, 3, 3, 3), 2, "110 011"));
    }

    private static void codesOfTheBlockBefore() {
        Check.says("prefix codes that describe themselves");
        Check.yields("a long code, a simple one, another long one", "\u0000\u0003zz\u0003\u0002",
            new BitsOut().head(false, true, 2).raw("0").raw("0").lengths(1, 2, 3, 3).simple(5, 16).simple(4, 0)
                .num(0, 2).raw("0 111")
                .head(false, true, 2).raw("0").simple(8, 'z').simple(5, 16).simple(4, 0).num(0, 2)
                .head(true, true, 2).raw("0").raw("0").lengths(3, 3, 2, 1).simple(5, 16).simple(4, 0)
                .num(0, 2).raw("0 10"));
        int[] sound = literals(coded(2).raw("0").lengths(0, 1, 1), 2, "0 1").bytes();
        Box x = Check.withStream(literals(coded(2).raw("0").lengths(1, 6, 6, 6, 1), 2, "0 0").bytes());
        Check.failsHere("a code that fails", x);
        Check.setStream(x, sound);
        Check.due("a sound one behind it", x.unpack(), 2);
        Check.due("its text", Check.textOf(x), new int[] {1, 2});
        Check.setText(x, Check.bytes("aXaYbYbX"));
        x.pack();
        Check.setStream(x, sound);
        Check.due("a sound one behind a pack", x.unpack(), 2);
        Check.due("its text again", Check.textOf(x), new int[] {1, 2});
    }
}
