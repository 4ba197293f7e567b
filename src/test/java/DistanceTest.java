import java.util.Arrays;

/** The Term DISTANCE, by streams that are unpacked: the latest distances, copies and words. */
public final class DistanceTest {
    private static final String FORTY = "0123456789ABCDEFGHIJKLMNOPQRSTUVWXYZ.,;:";
    private static final String LONG = FORTY + "+-*/=<>()[]{}!?abcdefghijklmnopqrstuvwxyz&%#@012345678";
    private static final int[] BASE = {1, 2, 3, 5, 9, 17, 33, 65};

    public static void main(String[] args) {
        plainDistances();
        latestAtTheBeginning();
        latestInEveryUnpacking();
        latestLessAndMoreOne();
        byteByByte();
        fromTheFirstByteOn();
        becomesTheLatest();
        fourthIsForgotten();
        fourStayBySymbol0();
        fourStayByC7();
        latestGoFromBlockToBlock();
        wordsBehindThere();
        fourStayByWords();
        wordLengths();
        wordNumbers();
        wordForms();
        wordFormsAtTheEdge();
        wordYieldsMoreOrLess();
        Check.finish();
    }

    private static BitsOut coded(int length) {
        return new BitsOut().head(true, true, length).raw("0").simple(8, 0);
    }

    /** Behind raw bytes: a last coded block without literals, up to its command code. */
    private static BitsOut behind(String text, int length) {
        BitsOut bits = new BitsOut();
        if (text.length() > 64) {
            bits.rawBlock(false, text.substring(0, 64)).rawBlock(false, text.substring(64));
        } else {
            bits.rawBlock(false, text);
        }
        return bits.head(true, true, length).raw("0").simple(8, 0);
    }

    /** The symbol that says d by itself, and its bits, in a code where it is the only one. */
    private static BitsOut plain(BitsOut bits, int d) {
        int k = symbolOf(d) - 6;
        return bits.simple(4, k + 6).num(d - BASE[k], Math.max(0, k - 1));
    }

    private static int symbolOf(int d) {
        int k = 0;
        while (k < 7 && BASE[k + 1] <= d) {
            k++;
        }
        return k + 6;
    }

    private static String copied(String text, int d, int m) {
        StringBuilder row = new StringBuilder(text);
        for (int k = 0; k < m; k++) {
            row.append(row.charAt(row.length() - d));
        }
        return row.toString();
    }

    private static String copied(String text, int[] distances) {
        String row = text;
        for (int d : distances) {
            row = copied(row, d, 2);
        }
        return row;
    }

    private static void plainDistances() {
        Check.says("6: 1; 7: 2; 8: 3 + a number of 1 bit; 9: 5 + 2 bits; 10: 9 + 3 bits; 11: 17 + 4 bits; "
            + "12: 33 + 5 bits; 13: 65 + 6 bits.");
        String text = LONG.substring(0, 91);
        for (int d = 1; d <= 91; d++) {
            Check.yields("distance " + d, copied(text, d, 4), plain(behind(text, 4).simple(5, 2), d));
        }
        for (int d = 92; d < 92 + 16; d++) {
            String word = Model.word(4, d - 92);
            Check.yields("distance " + d + " is a word", text + word,
                plain(behind(text, word.length()).simple(5, 2), d));
        }
        for (int d = 92 + 16; d <= 128; d++) {
            Check.fails("distance " + d, plain(behind(text, 4).simple(5, 2), d));
        }
    }

    private static void latestAtTheBeginning() {
        Check.says("At the beginning of a stream the four are, from the latest on, 1, 2, 4, 8.");
        int[] four = {1, 2, 4, 8};
        for (int symbol = 0; symbol < 4; symbol++) {
            for (int there = 1; there <= 9; there++) {
                String text = LONG.substring(0, there);
                int d = four[symbol];
                String want = d <= there ? copied(text, d, 4) : text + Model.word(4, d - there - 1);
                int length = want.length() - there;
                Check.yields("symbol " + symbol + " where " + there + " are", want,
                    behind(text, length).simple(5, 2).simple(4, symbol));
            }
            Check.yields("symbol " + symbol + " where none is", Model.word(5, four[symbol] - 1),
                coded(5).simple(5, 3).simple(4, symbol));
        }
    }

    private static void latestInEveryUnpacking() {
        Check.says("At the beginning of a stream the four are, from the latest on, 1, 2, 4, 8.");
        int[] stream = behind(FORTY, 3).simple(5, 7).simple(4, 0).bytes();
        int[] other = plain(behind(FORTY, 2).simple(5, 0), 9).bytes();
        Box x = Check.withStream(other);
        Check.due("a stream that makes 9 the latest", x.unpack(), 42);
        Check.setStream(x, stream);
        Check.due("three at the latest in the next stream", x.unpack(), 43);
        Check.due("they are from 1", Check.textOf(x), Check.bytes(FORTY + ":::"));
        Box y = Check.withStream(Arrays.copyOf(other, other.length + 1));
        Check.failsHere("one that fails behind its copy from 9", y);
        Check.setStream(y, stream);
        Check.due("three at the latest behind a failure", y.unpack(), 43);
        Check.due("they are from 1 too", Check.textOf(y), Check.bytes(FORTY + ":::"));
    }

    private static void latestLessAndMoreOne() {
        Check.says("0 to 3: the latest, second, third, fourth latest distance; 4: the latest - 1; "
            + "5: the latest + 1;");
        Check.fails("1 - 1", behind(FORTY, 2).simple(5, 0).simple(4, 4));
        Check.yields("1 + 1", copied(FORTY, 2, 2), behind(FORTY, 2).simple(5, 0).simple(4, 5));
        Check.yields("2 - 1", copied(FORTY, new int[] {2, 1}),
            behind(FORTY, 4).simple(5, 0).simple(4, 4, 7).raw("1 0"));
        Check.fails("2 - 1 - 1", behind(FORTY, 6).simple(5, 0).simple(4, 4, 7).raw("1 0 0"));
        Check.yields("1 + 1 + 1 + 1", copied(FORTY, new int[] {2, 3, 4}),
            behind(FORTY, 6).simple(5, 0).simple(4, 5));
        Check.yields("9 - 1", copied(FORTY, new int[] {9, 8}),
            behind(FORTY, 4).simple(5, 0).simple(4, 4, 10).raw("1").num(0, 3).raw("0"));
        Check.yields("9 + 1", copied(FORTY, new int[] {9, 10}),
            behind(FORTY, 4).simple(5, 0).simple(4, 5, 10).raw("1").num(0, 3).raw("0"));
        // Distance 42 where 42 are there, and 43 where 44 are.
        Check.yields("42 + 1", copied(FORTY, new int[] {1, 42, 43}),
            behind(FORTY, 6).simple(5, 0).simple(4, 5, 6, 12).raw("10").raw("11").num(9, 5).raw("0"));
    }

    private static void byteByByte() {
        Check.says("each of the m bytes is the byte d places before it, one after the other;");
        for (int d = 1; d <= 10; d++) {
            Check.yields("9 bytes from " + d, copied(FORTY, d, 9), nineFrom(d));
        }
        Check.yields("57 bytes from 2", copied("ab", 2, 57),
            behind("ab", 57).simple(5, 6).simple(4, 7).num(31, 5));
    }

    private static BitsOut nineFrom(int d) {
        int k = symbolOf(d) - 6;
        return behind(FORTY, 9).simple(5, 4).simple(4, k + 6).num(3, 2).num(d - BASE[k], Math.max(0, k - 1));
    }

    private static void fromTheFirstByteOn() {
        Check.says("If d is 1 .. THERE,");
        for (int there : new int[] {1, 2, 3, 5, 39, 40, 64, 65, 91, 92}) {
            String text = LONG.substring(0, there);
            Check.yields("from " + there + " of " + there, copied(text, there, 4),
                plain(behind(text, 4).simple(5, 2), there));
            Check.yields("from 1 of " + there, copied(text, 1, 4), plain(behind(text, 4).simple(5, 2), 1));
            Check.yields("from one more than " + there + ": a word", text + "that",
                plain(behind(text, 4).simple(5, 2), there + 1));
        }
        Check.yields("from 94 of 94", copied(LONG.substring(0, 94), 94, 2),
            plain(behind(LONG.substring(0, 94), 2).simple(5, 0), 94));
    }

    private static void becomesTheLatest() {
        Check.says("d becomes the latest distance then, the fourth is forgotten,");
        // The four go from 1 2 4 8 to 2 1 2 4, to 1 2 1 2 and to 2 1 2 1: no entry is taken out.
        Check.yields("by symbol 1", copied(FORTY, new int[] {2, 1, 2, 1}),
            behind(FORTY, 8).simple(5, 0).simple(4, 1));
        Check.yields("by symbol 2", copied(FORTY, new int[] {4, 2, 1, 4, 2}),
            behind(FORTY, 10).simple(5, 0).simple(4, 2));
        Check.yields("by symbol 3", copied(FORTY, new int[] {8, 4, 2, 1, 8}),
            behind(FORTY, 10).simple(5, 0).simple(4, 3));
        Check.yields("by symbol 5", copied(FORTY, new int[] {2, 3, 4, 5}),
            behind(FORTY, 8).simple(5, 0).simple(4, 5));
        Check.yields("by symbol 4: 9, 8, 7, 6", copied(FORTY, new int[] {9, 8, 7, 6}),
            behind(FORTY, 8).simple(5, 0).simple(4, 4, 10).raw("1").num(0, 3).raw("0 0 0"));
        for (int symbol = 6; symbol <= 12; symbol++) {
            int d = BASE[symbol - 6];
            Check.yields("by symbol " + symbol, copied(FORTY, new int[] {d, d}),
                behind(FORTY, 4).simple(5, 0).simple(4, 0, symbol)
                    .raw("1").num(0, Math.max(0, symbol - 7)).raw("0"));
        }
        Check.yields("by symbol 13", copied(LONG.substring(0, 90), new int[] {65, 65}),
            behind(LONG.substring(0, 90), 4).simple(5, 0).simple(4, 0, 13).raw("1").num(0, 6).raw("0"));
    }

    private static void fourthIsForgotten() {
        Check.says("d becomes the latest distance then, the fourth is forgotten,");
        // 9 before 1, 2, 4: the second, third and fourth are those; 8 is forgotten.
        int[] latest = {9, 1, 2, 4};
        for (int symbol = 1; symbol < 4; symbol++) {
            Check.yields("9, then symbol " + symbol, copied(FORTY, new int[] {9, latest[symbol]}),
                behind(FORTY, 4).simple(5, 0).simple(4, symbol, 10).raw("1").num(0, 3).raw("0"));
        }
        // 1 by symbol 6: 1 1 2 4, although it was the latest.
        latest = new int[] {1, 1, 2, 4};
        for (int symbol = 1; symbol < 4; symbol++) {
            Check.yields("1 by symbol 6, then symbol " + symbol, copied(FORTY, new int[] {1, latest[symbol]}),
                behind(FORTY, 4).simple(5, 0).simple(4, symbol, 6).raw("1 0"));
        }
        // 10 11 12 13 by symbol 10, then each by symbol 3: all the first four are forgotten.
        BitsOut bits = behind(FORTY, 16).simple(5, 0).simple(4, 3, 10);
        for (int extra = 1; extra <= 4; extra++) {
            bits.raw("1").num(extra, 3);
        }
        Check.yields("four others, then each of them as the fourth",
            copied(FORTY, new int[] {10, 11, 12, 13, 10, 11, 12, 13}), bits.raw("0 0 0 0"));
    }

    private static void fourStayBySymbol0() {
        Check.says("unless the symbol was 0 or c was 7 (then the four stay).");
        int[] latest = {1, 2, 4, 8};
        for (int symbol = 1; symbol < 4; symbol++) {
            Check.yields("symbol 0, then symbol " + symbol, copied(FORTY, new int[] {1, latest[symbol]}),
                behind(FORTY, 4).simple(5, 0).simple(4, 0, symbol).raw("0 1"));
        }
        Check.yields("9, then symbol 0, then symbol 1", copied(FORTY, new int[] {9, 9, 1}),
            behind(FORTY, 6).simple(5, 0).simple(4, 10, 0, 1).raw("0").num(0, 3).raw("10 11"));
    }

    private static void fourStayByC7() {
        Check.says("unless the symbol was 0 or c was 7 (then the four stay).");
        int[] latest = {1, 2, 4, 8};
        for (int symbol = 1; symbol < 4; symbol++) {
            Check.yields("c = 7, then symbol " + symbol, copied(copied(FORTY, 1, 3), latest[symbol], 2),
                behind(FORTY, 5).simple(5, 0, 7).simple(4, symbol).raw("1 0"));
        }
        Check.yields("9, then c = 7, then symbol 1", copied(copied(copied(FORTY, 9, 2), 9, 3), 1, 2),
            behind(FORTY, 7).simple(5, 0, 7).simple(4, 1, 10).raw("0 1").num(0, 3).raw("1").raw("0 0"));
    }

    private static void latestGoFromBlockToBlock() {
        Check.says("At the beginning of a stream the four are, from the latest on, 1, 2, 4, 8.");
        Check.yields("a raw block between leaves them", copied(copied(FORTY, 9, 2) + "!", 9, 3),
            new BitsOut().rawBlock(false, FORTY)
                .head(false, true, 2).raw("0").simple(8, 0).simple(5, 0).simple(4, 10).num(0, 3)
                .rawBlock(false, "!")
                .head(true, true, 3).raw("0").simple(8, 0).simple(5, 7).simple(4, 0));
    }

    private static void wordsBehindThere() {
        Check.says("If d is greater than THERE, d - THERE - 1 is x, and the copy is a WORD");
        for (int there : new int[] {0, 1, 2, 7, 40, 91}) {
            for (int x = 0; x < 16; x++) {
                String text = LONG.substring(0, there);
                String word = Model.word(4, x);
                BitsOut bits = there == 0 ? coded(word.length()) : behind(text, word.length());
                Check.yields("word " + x + " where " + there + " are", text + word,
                    plain(bits.simple(5, 2), there + 1 + x));
            }
        }
        // The latest is at most THERE but at the beginning, so symbol 4 says no word, and 5 only there.
        Check.yields("by symbol 5 where one is", "!that",
            new BitsOut().head(true, true, 5).raw("0").simple(8, '!').simple(5, 10).simple(4, 5));
        Check.yields("by symbol 5 where none is", "with", coded(4).simple(5, 2).simple(4, 5));
    }

    private static void fourStayByWords() {
        Check.says("and the copy is a WORD (the four stay):");
        int[] latest = {1, 2, 4, 8};
        for (int symbol = 0; symbol < 4; symbol++) {
            Check.yields("a word, then symbol " + symbol,
                copied(FORTY + "from", latest[symbol], 4),
                behind(FORTY, 8).simple(5, 2).simple(4, symbol, 12).raw("1").num(10, 5).raw("0"));
        }
        Check.yields("a word by symbol 1, then symbol 0", "with" + "hhhh",
            coded(8).simple(5, 2).simple(4, 0, 1).raw("1 0"));
    }

    private static void wordLengths() {
        Check.says("m must be 4 or 5;");
        Check.yields("4", FORTY + "that", behind(FORTY, 4).simple(5, 2).simple(4, 12).num(8, 5));
        Check.yields("5", FORTY + "which", behind(FORTY, 5).simple(5, 3).simple(4, 12).num(8, 5));
        Check.fails("2", behind(FORTY, 2).simple(5, 0).simple(4, 12).num(8, 5));
        Check.fails("3", behind(FORTY, 3).simple(5, 1).simple(4, 12).num(8, 5));
        Check.fails("6", behind(FORTY, 6).simple(5, 4).simple(4, 12).num(0, 2).num(8, 5));
        Check.fails("9", behind(FORTY, 9).simple(5, 4).simple(4, 12).num(3, 2).num(8, 5));
        Check.fails("10", behind(FORTY, 10).simple(5, 5).simple(4, 12).num(0, 4).num(8, 5));
        Check.fails("26", behind(FORTY, 26).simple(5, 6).simple(4, 12).num(0, 5).num(8, 5));
        Check.fails("3 by c = 7", coded(3).simple(5, 7).simple(4, 0));
        for (int length = 1; length <= 6; length++) {
            Check.fails("2 in a block of " + length, coded(length).simple(5, 0).simple(4, 0));
            Check.fails("3 in a block of " + length, coded(length).simple(5, 1).simple(4, 0));
            Check.fails("6 in a block of " + length, coded(length).simple(5, 4).simple(4, 0).num(0, 2));
        }
    }

    private static void wordNumbers() {
        Check.says("the word is number x & 3 of \"that\", \"with\", \"from\", \"have\" for m = 4, "
            + "of \"which\", \"there\", \"their\", \"about\" for m = 5;");
        String[] four = {"that", "with", "from", "have"};
        String[] five = {"which", "there", "their", "about"};
        for (int x = 0; x < 4; x++) {
            Check.yields(four[x], FORTY + four[x], behind(FORTY, 4).simple(5, 2).simple(4, 12).num(8 + x, 5));
            Check.yields(five[x], FORTY + five[x], behind(FORTY, 5).simple(5, 3).simple(4, 12).num(8 + x, 5));
        }
    }

    private static void wordForms() {
        Check.says("0 the word, 1 with its first letter as a capital, 2 with a blank (32) behind it, "
            + "3 without its first letter.");
        String[][] rows = {
            {"that", "with", "from", "have", "That", "With", "From", "Have",
                "that ", "with ", "from ", "have ", "hat", "ith", "rom", "ave"},
            {"which", "there", "their", "about", "Which", "There", "Their", "About",
                "which ", "there ", "their ", "about ", "hich", "here", "heir", "bout"}};
        for (int m = 4; m <= 5; m++) {
            for (int x = 0; x < 16; x++) {
                String word = rows[m - 4][x];
                Check.yields(m + "." + x, FORTY + word,
                    behind(FORTY, word.length()).simple(5, m - 2).simple(4, 12).num(8 + x, 5));
                Check.yields(m + "." + x + " at the beginning", word,
                    plain(coded(word.length()).simple(5, m - 2), 1 + x));
            }
        }
    }

    private static void wordFormsAtTheEdge() {
        Check.says("the FORM x >> 2 must be 0 .. 3:");
        for (int m = 4; m <= 5; m++) {
            Check.yields("x is 15, m is " + m, FORTY + Model.word(m, 15),
                behind(FORTY, m - 1).simple(5, m - 2).simple(4, 12).num(8 + 15, 5));
            for (int length = m - 1; length <= m + 1; length++) {
                for (int x = 16; x < 24; x++) {
                    Check.fails("x is " + x + ", m is " + m + " in a block of " + length,
                        behind(FORTY, length).simple(5, m - 2).simple(4, 12).num(8 + x, 5));
                }
                Check.fails("x is 87 in a block of " + length,
                    behind(FORTY, length).simple(5, m - 2).simple(4, 13).num(63, 6));
                Check.fails("x is 127 in a block of " + length,
                    coded(length).simple(5, m - 2).simple(4, 13).num(63, 6));
            }
        }
    }

    private static void wordYieldsMoreOrLess() {
        Check.says("What it yields may so be one byte more or less than m.");
        for (int m = 4; m <= 5; m++) {
            Check.yields("more: a block of " + (m + 1), FORTY + Model.word(m, 8),
                behind(FORTY, m + 1).simple(5, m - 2).simple(4, 12).num(16, 5));
            Check.fails("more: a block of " + m, behind(FORTY, m).simple(5, m - 2).simple(4, 12).num(16, 5));
            Check.yields("less: a block of " + (m - 1), FORTY + Model.word(m, 12),
                behind(FORTY, m - 1).simple(5, m - 2).simple(4, 12).num(20, 5));
            Check.fails("less: a block of " + (m - 2),
                behind(FORTY, m - 2).simple(5, m - 2).simple(4, 12).num(20, 5));
            Check.fails("less: a block of " + m + " is not at its end",
                behind(FORTY, m).simple(5, m - 2).simple(4, 12).num(20, 5));
        }
        // Behind "that " five are there, behind "hat" three.
        Check.yields("a blank counts as THERE", "that with", twoWords(8, 1, 9));
        Check.yields("a missing letter does not", "hatwith", twoWords(12, 1, 7));
    }

    /** Two words of m = 4, by the numbers x that are given. */
    private static BitsOut twoWords(int first, int second, int length) {
        int there = Model.word(4, first).length();
        int d1 = 1 + first;
        int d2 = there + 1 + second;
        int k1 = symbolOf(d1) - 6;
        int k2 = symbolOf(d2) - 6;
        return coded(length).simple(5, 2).simple(4, k1 + 6, k2 + 6)
            .raw(k1 < k2 ? "0" : "1").num(d1 - BASE[k1], Math.max(0, k1 - 1))
            .raw(k1 < k2 ? "1" : "0").num(d2 - BASE[k2], Math.max(0, k2 - 1));
    }
}
