/** The Term CODES: how pack makes and describes the codes of a block. */
public final class CodesTest {
    private static final String TO_LETTERS = "A long 7*18 7*18 7*18 7*18 7*18 7*7 ";
    private static final String LITERALS_ONLY = "commands simple 24";

    public static void main(String[] args) {
        noSymbol();
        oneSymbol();
        twoSymbols();
        threeSymbols();
        threeOfOtherCodes();
        fourSymbols();
        leastNumberOfBits();
        fromTheLowest();
        roundAndRound();
        nothingToSpread();
        aboveOne();
        longCommandsAndDistances();
        bothLiteralCodes();
        symbolsThatDoNotOccur();
        lastSymbols();
        codesOfTheBlockAlone();
        bitByBit();
        Check.finish();
    }

    /** A text of literals alone, by its literal code. */
    private static void literals(String name, String text, String code) {
        Check.parses(name, text, "coded " + text.length(), "[" + text + "] c0");
        Check.describes(name, text, code, LITERALS_ONLY, "distances simple 0");
    }

    private static void noSymbol() {
        Check.says("CODES: a code in which no symbol occurs in the block is simple with the symbol 0.");
        Check.describes("no literal", "that", "A simple 0", "commands simple 2", "distances simple 6");
        Check.describes("no distance behind c = 7", "aaaa", "A simple 97", "commands simple 15",
            "distances simple 0");
        Check.describes("no distance behind literals", "aaa", "A simple 97", "commands simple 16",
            "distances simple 0");
        Check.describes("no literal in the second block", "a".repeat(96), "A simple 97", "commands simple 14",
            "distances simple 0", "A simple 0", "commands simple 6", "distances simple 0");
    }

    private static void oneSymbol() {
        Check.says("One, two, three or four symbols that occur make it simple, listed by their numbers,");
        Check.describes("one of each", "aaaaa", "A simple 97", "commands simple 10", "distances simple 0");
        Check.describes("one that occurs often", "qqq", "A simple 113", "commands simple 16",
            "distances simple 0");
    }

    private static void twoSymbols() {
        Check.says("One, two, three or four symbols that occur make it simple, listed by their numbers,");
        literals("as often", "abbaba", "A simple 97 98");
        literals("the greater more often", "bbbaabb", "A simple 97 98");
        literals("the lesser more often", "aaabbaa", "A simple 97 98");
    }

    private static void threeSymbols() {
        Check.says("but of three the one that occurs most often comes first (of several such the least).");
        literals("a 3, b 2, c 2", "bbaccaa", "A simple 97 98 99");
        literals("a 2, b 3, c 2", "bbcaacb", "A simple 98 97 99");
        literals("a 2, b 2, c 4", "abcbaccc", "A simple 99 97 98");
        literals("a 2, b 3, c 3", "bbcaabcc", "A simple 98 97 99");
        literals("a 3, b 2, c 3", "abcaaccb", "A simple 97 98 99");
        literals("a 3, b 3, c 2", "bccbbaaa", "A simple 97 98 99");
        literals("a 3, b 3, c 3", "cabcbbaca", "A simple 97 98 99");
    }

    private static void threeOfOtherCodes() {
        Check.says("but of three the one that occurs most often comes first (of several such the least).");
        Check.describes("commands 17 17 9 20", "bdebdeffedebcebcbfaaaaaaa", TO_LETTERS + "3 2 3 3 3 2",
            "commands simple 17 9 20", "distances simple 1 3 8 9");
        Check.describes("distances 8 2 8 10", "cfdcfdcfddececefbceffdecd",
            "A long 7*18 7*18 7*18 7*18 7*18 7*8 3 2 2 3 2", "commands simple 8 9 17 20",
            "distances simple 8 2 10");
        Check.describes("commands and distances once each", "abcdeXabcYabcdeeeeeeee",
            "A long 7*18 7*18 7*18 7*18 7*16 2 3 7*7 3 3 3 3 3", "commands simple 4 11 25",
            "distances simple 2 9 10");
    }

    private static void fourSymbols() {
        Check.says("One, two, three or four symbols that occur make it simple, listed by their numbers,");
        literals("as often", "bccacaddbbda", "A simple 97 98 99 100");
        literals("the greatest most often", "bbccaaddbdccdd", "A simple 97 98 99 100");
        Check.describes("distances", "bfdbfdbfdfdbdefbfddfdbdeb", "A simple 98 100 101 102",
            "commands long 0 2 0 0 2 7*3 2 7*8 3 0 0 3", "distances simple 5 8 9 10");
    }

    private static void leastNumberOfBits() {
        Check.says("with t the sum of all their numbers of times, a symbol that occurs k times has at first "
            + "the least b from 1 on with k << b at least t;");
        // Of 16: 6 2, 4 2 (just 16), 3 3, 2 3 (just 16), 1 4 (just 16): SPACE 12 goes to c and to e.
        literals("6 4 3 2 1", "abaaeabbabdacccd", TO_LETTERS + "2 2 2 3 3");
        // Of 16: 1 4, 2 3, 3 3, 4 2, 6 2: SPACE 12 goes to a (4) and to b (8).
        literals("1 2 3 4 6", "deeeaedbccbeeddc", TO_LETTERS + "3 2 3 2 2");
        // Of 48: 6 3 (just 48), eight of them.
        literals("eight times 6", "cccdagddaefgbhcfhbbfcfaedfdbegfgedhabgceebgahhha",
            TO_LETTERS + "3 3 3 3 3 3 3 3");
        // Of 48: 9 3, 8 3, 6 3, 6 3, then 5 4, 5 4, 5 4, 4 4: SPACE 16 goes to a and b.
        literals("9 8 6 6 5 5 5 4", "fdhgbadbegafbdgbhafeeabhcdccehbbaedfcabcggadacfa",
            TO_LETTERS + "2 2 3 3 4 4 4 4");
    }

    private static void fromTheLowest() {
        Check.says("then, as long as SPACE is above 0, the symbols are gone through from the lowest,");
        // Each of 3 bits at first, SPACE 24: the lowest three get 2.
        literals("five times 5", "bedbcacbdcbadedccedeabaae", TO_LETTERS + "2 2 2 3 3");
        // Each of 3 bits at first, SPACE 16: the lowest two get 2.
        literals("six times 4", "ecedabcdfbdbfbacaedceaff", TO_LETTERS + "2 2 3 3 3 3");
        Check.says("which may have b - 1 bits without SPACE becoming less than 0 gets them.");
        // Of 48: 3 3 3 3 4 4 4 4 5 bits, SPACE 64 - 32 - 16 - 2 = 14: a 8, then e 4 and i 2.
        literals("9 8 6 6 5 5 4 3 2", "acaceedbaagibbcfddfadabhfbbdcahebccgdafihbagefeg",
            TO_LETTERS + "2 3 3 3 3 4 4 4 4");
    }

    private static void roundAndRound() {
        Check.says("round and round,");
        // Of 20: 3 3 5 2 3 bits, SPACE 22: a 8, b 8, c 2; then c 4 in the second round.
        literals("4 4 1 8 3", "ddedddbdebcaaadbebda", TO_LETTERS + "2 2 3 2 3");
    }

    private static void nothingToSpread() {
        Check.says("as long as SPACE is above 0,");
        // Of 16 literals: 4 2 4 4 2, just all of the SPACE.
        Check.describes("SPACE is 0 at once", "abcdccdcccdadedacabe", TO_LETTERS + "2 3 2 2 3",
            "commands simple 18 24", "distances simple 8");
        // Of 48: seven times 6 3 (just 48), 3 4 (just 48), three times 1 6, SPACE 1: the first of those gets it.
        literals("SPACE is 1, the lowest that may have it is i", "iffagjfbgdccdcfgdhdfefaaadhbbbgbegabechckecaedeg",
            TO_LETTERS + "3 3 3 3 3 3 3 4 5 6 6");
        literals("SPACE is 1, the lowest that may have it is a", "dhbcjcchfkebkjfbheibbgcfgfjeejgabejcgfgcjhekhgfh",
            TO_LETTERS + "5 3 3 6 3 3 3 3 6 3 4");
    }

    private static void aboveOne() {
        Check.says("and one whose b is above 1");
        // Of 13: 7 1, 2 3, 2 3, 1 4, 1 4: SPACE 8 goes to b, as a has one bit.
        literals("7 2 2 1 1", "aaadcababceaa", TO_LETTERS + "1 2 3 4 4");
        Check.says("the least b from 1 on with k << b at least t;");
        // Of 13: 1 4, 1 4, 2 3, 2 3, 7 1: SPACE 8 goes to a and b. Of 16: 8 1 (just 16), and SPACE is 0.
        literals("1 1 2 2 7", "dedacebeeecee", TO_LETTERS + "3 3 3 3 1");
        literals("2 2 2 2 8", "eaeeebeecedacdbe", TO_LETTERS + "3 3 3 3 1");
    }

    private static void longCommandsAndDistances() {
        Check.says("Five or more:");
        Check.describes("five commands, once each", "bfdbfdbfdfdbdefbfddfdbdeb", "A simple 98 100 101 102",
            "commands long 0 2 0 0 2 7*3 2 7*8 3 0 0 3", "distances simple 5 8 9 10");
        Check.describes("five commands and five distances", "acbbbbbacbabbbbcbbcbbbdcb",
            "A simple 97 98 99 100", "commands long 0 1 3 7*7 3 7*5 3 0 3",
            "distances long 2 7*4 2 7*3 2 3 3");
    }

    private static void bothLiteralCodes() {
        Check.says("Five or more:");
        Check.describes("A and B", "fVbWbVcXeZfVdUeXdUdUbZcVaVdYeUbUe", TO_LETTERS + "4 2 3 2 2 4",
            "B long 7*18 7*18 7*18 7*18 7*13 2 2 3 3 3 3", LITERALS_ONLY, "distances simple 0");
    }

    private static void symbolsThatDoNotOccur() {
        Check.says("Symbols that do not occur, z of them before the next that does: as long as z is 3 or more, "
            + "a 7 for the lesser of z and 18 of them; then a 0 for each that remains.");
        // Gaps of 0, 0, 1, 2, 3, 18, 19, 20, 21, 36, 37.
        int[] symbols = {0, 1, 3, 6, 10, 29, 49, 70, 92, 129, 167};
        StringBuilder text = new StringBuilder();
        for (int step = 1; step <= 4; step++) {
            for (int k = 0; k < 11; k++) {
                text.append((char) symbols[k * step % 11]);
            }
        }
        literals("gaps of 0 to 37", text.toString(), "A long 3 3 0 3 0 0 3 7*3 3 7*18 4 7*18 0 4 7*18 0 0 4 "
            + "7*18 7*3 4 7*18 7*18 4 7*18 7*18 0 4");
    }

    private static void lastSymbols() {
        Check.says("Symbols that do not occur, z of them before the next that does:");
        StringBuilder text = new StringBuilder();
        for (char c : "beaddcddedcbcdaecebbaeacabacbe".toCharArray()) {
            text.append((char) (c - 'a' + 251));
        }
        literals("251 to 255", text.toString(), "A long " + "7*18 ".repeat(13) + "7*17 2 2 2 3 3");
        text.setLength(0);
        for (char c : "beaddcddedcbcdaecebbaeacabacbe".toCharArray()) {
            text.append((char) (c - 'a'));
        }
        literals("0 to 4", text.toString(), "A long 2 2 2 3 3");
    }

    private static void codesOfTheBlockAlone() {
        Check.says("a code in which no symbol occurs in the block");
        Check.describes("the second block has its own", "a".repeat(48) + "b".repeat(20), "A simple 97",
            "commands simple 14", "distances simple 0", "A simple 98", "commands simple 13",
            "distances simple 0");
        Box mapped = Check.withText("aXaYbYbX");
        mapped.pack();
        Check.setText(mapped, Check.bytes("cPcQdQdP"));
        mapped.pack();
        Check.due("and so has the next text with MAP 1", Model.unpack(Check.streamOf(mapped)).codes,
            "A simple 99 100", "B simple 80 81", LITERALS_ONLY, "distances simple 0");
        Box copies = Check.withText("acbbbbbacbabbbbcbbcbbbdcb");
        copies.pack();
        Check.setText(copies, Check.bytes("aaaaa"));
        copies.pack();
        Check.due("and so has one with a copy", Model.unpack(Check.streamOf(copies)).codes,
            "A simple 97", "commands simple 10", "distances simple 0");
        Box x = Check.withText("abaaeabbabdacccd");
        x.pack();
        Check.setText(x, Check.bytes("bbbaabb"));
        x.pack();
        Check.due("and so has the next text", Model.unpack(Check.streamOf(x)).codes, "A simple 97 98",
            LITERALS_ONLY, "distances simple 0");
    }

    /** Some streams whole, written by hand from the document. */
    private static void bitByBit() {
        Check.says("The CODE WORDS: all symbols in order of their bits, of as many bits by their numbers;");
        Check.packs("three, the most frequent first", "cacbccab",
            new BitsOut().head(true, true, 8).raw("0").simple(8, 'c', 'a', 'b').simple(5, 24).simple(4, 0)
                .num(2, 6).raw("0 10 0 11 0 0 10 11"));
        Check.packs("three, as often", "cabcbbaca",
            new BitsOut().head(true, true, 9).raw("0").simple(8, 'a', 'b', 'c').simple(5, 24).simple(4, 0)
                .num(3, 6).raw("11 0 10 11 10 10 0 11 0"));
        Check.packs("two", "ababbaa",
            new BitsOut().head(true, true, 7).raw("0").simple(8, 'a', 'b').simple(5, 24).simple(4, 0)
                .num(1, 6).raw("0 1 0 1 1 0 0"));
        Check.packs("five", "aabacadabbcbcaed",
            new BitsOut().head(true, true, 16).raw("0").raw("0")
                .run(18).run(18).run(18).run(18).run(18).run(7).lengths(2, 2, 2, 3, 3)
                .simple(5, 24).simple(4, 0).num(10, 6)
                .raw("00 00 01 00 10 00 110 00 01 01 10 01 10 00 111 110"));
        Check.packs("five literals, two commands, two distances", "abcdZabcdYabcd",
            new BitsOut().head(true, true, 14).raw("0")
                .raw("0").run(18).run(18).run(18).run(18).run(17).lengths(2, 2).run(6).lengths(3, 3, 3, 3)
                .simple(5, 10, 18).simple(4, 0, 9)
                .raw("1").num(5 - 2, 2).raw("100 101 110 111 01").raw("1").num(0, 2)
                .raw("0").raw("00").raw("0"));
    }
}
