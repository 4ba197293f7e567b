import java.util.Arrays;
import java.util.List;

/** The Term PACKING up to its commands: how a text is cut, parsed and made into commands. */
public final class ParseTest {
    private static final String ALL_DIFFERENT = allDifferent();

    public static void main(String[] args) {
        noBytes();
        blocksOf48();
        insideTheBlock();
        atMost57();
        someEarlierPlace();
        overThePlaceItself();
        leastDistance();
        greatestNumber();
        everyWord();
        wordInsideTheBlock();
        severalWords();
        wordOfFourBytes();
        wordOrCopy();
        copyOfThree();
        literalGoesOnByOne();
        literalsOfACommand();
        literalsAtTheEnd();
        copyOfThreeFromTheLatest();
        latestDistancesFirst();
        latestLessAndMoreOne();
        otherDistances();
        distancesOfWords();
        Check.finish();
    }

    private static String allDifferent() {
        StringBuilder row = new StringBuilder();
        for (int k = 0; k < 48; k++) {
            row.append((char) (k * 5 % 256));
        }
        return row.toString();
    }

    /** 48 different bytes and then copies: pairs of a distance and a number of bytes. */
    private static String withCopies(int... pairs) {
        StringBuilder text = new StringBuilder(ALL_DIFFERENT);
        for (int k = 0; k < pairs.length; k += 2) {
            for (int n = 0; n < pairs[k + 1]; n++) {
                text.append(text.charAt(text.length() - pairs[k]));
            }
        }
        return text.toString();
    }

    private static void noBytes() {
        Check.says("PACKING: a text without bytes makes the stream of the bits LAST 1, EMPTY 1.");
        Check.due("the stream", Check.packed("no bytes", ""), new int[] {0b11});
        Box x = Check.withText("that that");
        x.pack();
        x.clear();
        Check.due("after another text", x.pack(), 1);
        new State(new int[0], new int[] {0b11}, 0, 0, 0, 0).due("after another text", x);
        Check.due("one byte makes a block", Check.packed("one byte", "\u0000"), new int[] {1, 0, 0});
    }

    private static void blocksOf48() {
        Check.says("Otherwise the text is cut into blocks of 48 bytes (the last one has what remains).");
        Check.parses("47 bytes", "a".repeat(47), "coded 47", "[a] c6 copy 46 from 1 by 0");
        Check.parses("48 bytes", "a".repeat(48), "coded 48", "[a] c6 copy 47 from 1 by 0");
        Check.parses("49 bytes", "a".repeat(49), "coded 48", "[a] c6 copy 47 from 1 by 0", "raw 1");
        Check.parses("95 bytes", "a".repeat(95), "coded 48", "[a] c6 copy 47 from 1 by 0",
            "coded 47", "[] c6 copy 47 from 1 by 0");
        Check.parses("96 bytes", "a".repeat(96), "coded 48", "[a] c6 copy 47 from 1 by 0",
            "coded 48", "[] c6 copy 48 from 1 by 0");
        StringBuilder text = new StringBuilder();
        for (int k = 0; k < 96; k++) {
            text.append((char) (k * 5 % 251));
        }
        Check.parses("47 raw bytes", text.substring(0, 47), "raw 47");
        Check.parses("48 raw bytes", text.substring(0, 48), "raw 48");
        Check.parses("49 raw bytes", text.substring(0, 49), "raw 48", "raw 1");
        Check.parses("95 raw bytes", text.substring(0, 95), "raw 48", "raw 47");
        Check.parses("96 raw bytes", text.toString(), "raw 48", "raw 48");
    }

    private static void insideTheBlock() {
        Check.says("L is the greatest number of bytes from q on, inside the block and at most 57,");
        Check.parses("a copy ends with the first block", "abcdefgh".repeat(7), "coded 48",
            "[abcdefgh] c6 copy 40 from 8 by 3", "coded 8", "[] c4 copy 8 from 8 by 0");
        Check.parses("a copy ends with the text", "abcdefgh".repeat(4) + "abc", "coded 35",
            "[abcdefgh] c6 copy 27 from 8 by 3");
        // Two bytes of "XYZ" are left in the first block: no copy; with three of them it is one.
        String start = "XYZ" + "a".repeat(43);
        Check.parses("two bytes before the block's end", start + "XYZ" + "a".repeat(20), "coded 48",
            "[XYZa] c6 copy 42 from 1 by 0", "[XY] c0", "coded 21",
            "[] c5 copy 21 from 46 by 12");
        start = "XYZ" + "a".repeat(42);
        Check.parses("three bytes before the block's end", start + "XYZ" + "a".repeat(20), "coded 48",
            "[XYZa] c6 copy 41 from 1 by 0", "[] c1 copy 3 from 45 by 12", "coded 20",
            "[] c5 copy 20 from 23 by 11");
    }

    private static void atMost57() {
        Check.says("inside the block and at most 57,");
        // A block has 48 bytes, so that 57 are never reached: the longest copy is a block.
        Check.parses("a copy of a whole block", "abcd".repeat(24), "coded 48", "[abcd] c6 copy 44 from 4 by 2",
            "coded 48", "[] c6 copy 48 from 4 by 0");
        Check.parses("a copy of a whole block from 48", withCopies(48, 48), "raw 48",
            "coded 48", "[] c6 copy 48 from 48 by 12");
    }

    private static void someEarlierPlace() {
        Check.says("that are equal to as many bytes that begin at some earlier place of the text");
        Check.parses("place 0, from the first block", "Qabcde" + "x".repeat(84) + "Qabcde", "coded 48",
            "[Qabcdex] c6 copy 41 from 1 by 0", "coded 48", "[] c6 copy 42 from 1 by 0",
            "[] c4 copy 6 from 90 by 13");
        Check.parses("place 0, in the same block", "QabQabxxxxxxxx", "mapped 14",
            "[Qab] c1 copy 3 from 3 by 8", "[x] c4 copy 7 from 1 by 1");
        Check.parses("what comes later is no earlier place", "xxxxxxQabyyyyyyQab", "mapped 18",
            "[x] c3 copy 5 from 1 by 0", "[Qaby] c3 copy 5 from 1 by 0", "[] c1 copy 3 from 9 by 10");
    }

    private static void overThePlaceItself() {
        Check.says("(which may go on over q),");
        Check.parses("from 1", "aaaaaa", "coded 6", "[a] c3 copy 5 from 1 by 0");
        Check.parses("from 2", "abababab", "coded 8", "[ab] c4 copy 6 from 2 by 1");
        Check.parses("from 3", "abcabcabcab", "coded 11", "[abc] c4 copy 8 from 3 by 8");
    }

    private static void leastDistance() {
        Check.says("and d the least distance for which it is so many;");
        Check.parses("5, not 10", "abcdZabcdYabcd", "coded 14",
            "[abcdZ] c2 copy 4 from 5 by 9", "[Y] c2 copy 4 from 5 by 0");
        Check.parses("1, not 2", "aaaaaaa", "coded 7", "[a] c4 copy 6 from 1 by 0");
        Check.parses("2, not 4", "babababababa", "coded 12", "[ba] c5 copy 10 from 2 by 1");
    }

    private static void greatestNumber() {
        Check.says("L is the greatest number of bytes from q on,");
        Check.parses("5 from 10 are more than 3 from 4", "abcdeXabcYabcdeeeeeeee", "coded 22",
            "[abcdeX] c1 copy 3 from 6 by 9", "[Y] c3 copy 5 from 10 by 10", "[] c4 copy 7 from 1 by 2");
        Check.parses("4 from 4 are more than 3 from 9", "abcXabcdeabcdddddddd", "coded 20",
            "[abcX] c1 copy 3 from 4 by 2", "[de] c2 copy 4 from 5 by 5", "[] c4 copy 7 from 1 by 2");
    }

    private static void everyWord() {
        Check.says("W is the greatest number of bytes that a word in some form yields "
            + "and that stand from q on inside the block;");
        int[] first = {1, 2, 3, 5, 9, 17};
        for (int m = 4; m <= 5; m++) {
            for (int x = 0; x < 16; x++) {
                String word = Model.word(m, x);
                int k = 0;
                while (first[k + 1] <= 1 + x) {
                    k++;
                }
                if (word.length() >= 4) {
                    Check.parses(word, word, "coded " + word.length(),
                        "[] c" + (m - 2) + " word " + m + "." + x + " by " + (6 + k));
                }
            }
        }
        Check.parses("the one with a blank is greater", "that!that !", "coded 11",
            "[] c2 word 4.0 by 6", "[!] c2 word 4.8 by 10", "[!] c0");
        Check.parses("a word of five and its rest of four", "there", "coded 5", "[] c3 word 5.1 by 7");
        Check.parses("the rest of four alone", "where", "coded 5", "[w] c3 word 5.13 by 10");
        Check.parses("two forms at once are none", "That ", "coded 5", "[] c2 word 4.4 by 9", "[ ] c0");
        Check.parses("capitals are others", "THATthat", "coded 8",
            "[THAT] c2 word 4.0 by 9");
    }

    private static void wordInsideTheBlock() {
        Check.says("and that stand from q on inside the block;");
        Check.parses("a word ends with the block", "a".repeat(44) + "that", "coded 48",
            "[a] c6 copy 43 from 1 by 0", "[] c2 word 4.0 by 12");
        Check.parses("a word would end behind the block", "a".repeat(45) + "thatttttttttt", "coded 48",
            "[a] c6 copy 44 from 1 by 0", "[tha] c0", "coded 10",
            "[t] c4 copy 9 from 1 by 0");
        Check.parses("its blank ends with the block", "a".repeat(43) + "that ", "coded 48",
            "[a] c6 copy 42 from 1 by 0", "[] c2 word 4.8 by 12");
        Check.parses("its blank is behind the block", "a".repeat(44) + "that " + "b".repeat(9), "coded 48",
            "[a] c6 copy 43 from 1 by 0", "[] c2 word 4.0 by 12",
            "coded 10", "[ b] c4 copy 8 from 1 by 0");
        Check.parses("it begins the block", "a".repeat(48) + "that", "coded 48",
            "[a] c6 copy 47 from 1 by 0", "coded 4", "[] c2 word 4.0 by 12");
        Check.parses("the text ends within a word", "aaaaaaaatha", "coded 11", "[a] c4 copy 7 from 1 by 0",
            "[tha] c0");
    }

    /** No two words in some form are the same bytes, so that there is never a choice to see. */
    private static void severalWords() {
        Check.says("of several such the one with m = 4, of several such the one with the least x.");
        for (int one = 0; one < 32; one++) {
            for (int other = 0; other < one; other++) {
                Check.due("words " + one + " and " + other + " are the same",
                    Model.word(4 + one / 16, one % 16).equals(Model.word(4 + other / 16, other % 16)), false);
            }
        }
    }

    private static void wordOfFourBytes() {
        Check.says("If W is at least 4 and greater than L: this word, and q goes on by W.");
        for (String three : new String[] {"hat", "ith", "rom", "ave"}) {
            Check.parses(three + " is no word", "zzzzzzzz" + three, "coded 11",
                "[z] c4 copy 7 from 1 by 0", "[" + three + "] c0");
        }
        for (String four : new String[] {"hich", "here", "heir", "bout"}) {
            int x = 12 + List.of("hich", "here", "heir", "bout").indexOf(four);
            Check.parses(four + " is one", "zzzzzzzz" + four, "coded 12",
                "[z] c4 copy 7 from 1 by 0", "[] c3 word 5." + x + " by 11");
        }
    }

    private static void wordOrCopy() {
        Check.says("If W is at least 4 and greater than L: this word, and q goes on by W.");
        Check.parses("W is 4, L is 3", "thaXthatXXXXXXXXX", "mapped 17",
            "[thaX] c2 word 4.0 by 9", "[X] c4 copy 8 from 1 by 0");
        Check.parses("W is 4, L is 4", "thatXthat", "coded 9", "[] c2 word 4.0 by 6",
            "[X] c2 copy 4 from 5 by 9");
        Check.parses("W is 4, L is 5", "thatXthatX", "coded 10", "[] c2 word 4.0 by 6",
            "[X] c3 copy 5 from 5 by 9");
        Check.parses("W is 5, L is 4", "thatthat ", "coded 9", "[] c2 word 4.0 by 6", "[] c2 word 4.8 by 10");
        Check.parses("W is 5, L is 5", "that that ", "coded 10", "[] c2 word 4.8 by 10",
            "[] c3 copy 5 from 5 by 9");
        Check.parses("W is 5, L is 6", "that Xthat X", "coded 12", "[] c2 word 4.8 by 10",
            "[X] c4 copy 6 from 6 by 9");
        Check.parses("W is 6, L is 5", "therethere ", "coded 11", "[] c3 word 5.1 by 7",
            "[] c3 word 5.9 by 10");
        Check.parses("W is 6, L is 6", "there there ", "coded 12", "[] c3 word 5.9 by 10",
            "[] c4 copy 6 from 6 by 9");
    }

    private static void copyOfThree() {
        Check.says("Otherwise, if L is at least 3: a copy of L bytes from d, and q goes on by L.");
        Check.parses("L is 2", "abYabXXXXXXXXXXX", "mapped 16", "[abYabX] c5 copy 10 from 1 by 0");
        Check.parses("L is 3", "abcYabcXXXXXXXXX", "mapped 16",
            "[abcY] c1 copy 3 from 4 by 2", "[X] c4 copy 8 from 1 by 1");
        Check.parses("L is 4", "abcdabcdddddddd", "coded 15",
            "[abcd] c2 copy 4 from 4 by 2", "[] c4 copy 7 from 1 by 1");
        Check.parses("L is 3, W is 3", "hatYhatXXXXXXXXX", "mapped 16",
            "[hatY] c1 copy 3 from 4 by 2", "[X] c4 copy 8 from 1 by 1");
    }

    private static void literalGoesOnByOne() {
        Check.says("Otherwise: a literal, and q goes on by 1.");
        Check.parses("a copy begins behind one literal", "abcZabcaaaaaaaa", "coded 15",
            "[abcZ] c1 copy 3 from 4 by 2", "[a] c4 copy 7 from 1 by 1");
        Check.parses("a word begins behind one literal", "Ithere", "coded 6", "[I] c3 word 5.1 by 8");
        Check.parses("all are literals", "cacbccab", "coded 8", "[cacbccab] c0");
    }

    private static void literalsOfACommand() {
        Check.says("A command is made of each copy or word with the literals since the one before (or since p),");
        for (int n = 1; n <= 7; n++) {
            String literals = "QRRQQQR".substring(0, n);
            Check.parses(n + " literals before a word", literals + "that", "coded " + (n + 4),
                "[" + literals + "] c2 word 4.0 by " + (n < 2 ? 7 : n < 4 ? 8 : 9));
            Check.parses(n + " literals between copies", "AAAAAAAA" + literals + "!!!!", "coded " + (n + 12),
                "[A] c4 copy 7 from 1 by 0", "[" + literals + "!] c7 copy 3 from 1");
        }
        Check.parses("since p: the second block begins with its own",
            "a".repeat(46) + "xy" + "zz" + "b".repeat(20), "coded 48",
            "[a] c6 copy 45 from 1 by 0", "[xy] c0", "coded 22", "[zzb] c5 copy 19 from 1 by 0");
    }

    private static void literalsAtTheEnd() {
        Check.says("and one, with c = 0, of literals at the block's end.");
        Check.parses("one", "aaaaaaab", "coded 8", "[a] c4 copy 6 from 1 by 0", "[b] c0");
        Check.parses("none behind a copy", "aaaaaaa", "coded 7", "[a] c4 copy 6 from 1 by 0");
        Check.parses("none behind a word", "aaaaathat", "coded 9", "[a] c2 copy 4 from 1 by 0",
            "[] c2 word 4.0 by 9");
        String literals = "aaabaacaadabbabcabdacbaccacdadbadcaddbbbcbbdbccb";
        Check.parses("all of a block of 48", literals, "coded 48", "[" + literals + "] c0");
    }

    private static void copyOfThreeFromTheLatest() {
        Check.says("A copy of 3 bytes from the latest distance has c = 7.");
        Check.parses("3 from 1 at first", "aaaa", "coded 4", "[a] c7 copy 3 from 1");
        Check.parses("2 from 1 are literals", "aaa", "coded 3", "[aaa] c0");
        Check.parses("4 from 1", "aaaaa", "coded 5", "[a] c2 copy 4 from 1 by 0");
        Check.parses("3 from 2, the second latest", "abababbbbbbbbb", "coded 14",
            "[ab] c2 copy 4 from 2 by 1", "[] c4 copy 8 from 1 by 1");
        Check.parses("3 from 3, and once more when it is the latest", "abcabcXYZXYZ", "mapped 12",
            "[abc] c1 copy 3 from 3 by 8", "[XYZ] c7 copy 3 from 3");
        Check.parses("the four stay then", "abcabcXYZXYZaaaaaa", "mapped 18",
            "[abc] c1 copy 3 from 3 by 8", "[XYZ] c7 copy 3 from 3", "[a] c3 copy 5 from 1 by 1");
    }

    private static void latestDistancesFirst() {
        Check.says("The distance symbol: the least of 0 to 3 that says d,");
        Check.parses("0: 1 at first", withCopies(1, 6), "raw 48", "coded 6", "[] c4 copy 6 from 1 by 0");
        Check.parses("1: 2 at first, although 5 says it too", withCopies(2, 6), "raw 48", "coded 6",
            "[] c4 copy 6 from 2 by 1");
        Check.parses("2: 4 at first", withCopies(4, 6), "raw 48", "coded 6", "[] c4 copy 6 from 4 by 2");
        Check.parses("3: 8 at first", withCopies(8, 6), "raw 48", "coded 6", "[] c4 copy 6 from 8 by 3");
        Check.parses("1 and not 3, where both say 2 or 1", "abababbbbbcdcdcdeeeee", "mapped 21",
            "[ab] c2 copy 4 from 2 by 1", "[] c2 copy 4 from 1 by 1", "[cd] c2 copy 4 from 2 by 1",
            "[e] c2 copy 4 from 1 by 1");
        Check.parses("2 and not 4, where the latest is 3", "abcabcXYXYXYXY", "mapped 14",
            "[abc] c1 copy 3 from 3 by 8", "[XY] c4 copy 6 from 2 by 2");
        Check.parses("3 and not 5, where the latest is 3", withCopies(3, 6, 4, 6), "raw 48",
            "coded 12", "[] c4 copy 6 from 3 by 8", "[] c4 copy 6 from 4 by 3");
    }

    private static void latestLessAndMoreOne() {
        Check.says("else 4, else 5 if they do,");
        Check.parses("4", withCopies(11, 6, 10, 6), "raw 48", "coded 12",
            "[] c4 copy 6 from 11 by 10", "[] c4 copy 6 from 10 by 4");
        Check.parses("4: 8 is forgotten", withCopies(9, 6, 8, 6), "raw 48", "coded 12",
            "[] c4 copy 6 from 9 by 10", "[] c4 copy 6 from 8 by 4");
        Check.parses("5", withCopies(11, 6, 12, 6), "raw 48", "coded 12",
            "[] c4 copy 6 from 11 by 10", "[] c4 copy 6 from 12 by 5");
        Check.parses("neither", withCopies(11, 6, 13, 6), "raw 48", "coded 12",
            "[] c4 copy 6 from 11 by 10", "[] c4 copy 6 from 13 by 10");
    }

    private static void otherDistances() {
        Check.says("else the one that does;");
        int[][] rows = {{3, 8}, {5, 9}, {7, 9}, {9, 10}, {16, 10}, {17, 11}, {32, 11}, {33, 12}, {48, 12}};
        for (int[] row : rows) {
            Check.parses("from " + row[0], withCopies(row[0], 6), "raw 48", "coded 6",
                "[] c4 copy 6 from " + row[0] + " by " + row[1]);
        }
        // Four others come first, so that 1, 2, 4 and 8 are forgotten.
        int[] four = {20, 6, 40, 6, 60, 6, 58, 6};
        int[][] near = {{1, 6}, {2, 7}, {4, 8}, {8, 9}, {65, 13}, {66, 13}};
        for (int[] row : near) {
            int[] pairs = Arrays.copyOf(four, 10);
            pairs[8] = row[0];
            pairs[9] = 5;
            Check.parses("from " + row[0] + ", forgotten", withCopies(pairs), "raw 48", "coded 29",
                "[] c4 copy 6 from 20 by 11", "[] c4 copy 6 from 40 by 12", "[] c4 copy 6 from 60 by 12",
                "[] c4 copy 6 from 58 by 12", "[] c3 copy 5 from " + row[0] + " by " + row[1]);
        }
    }

    private static void distancesOfWords() {
        Check.says("for a word the one of 6 to 13 that does.");
        Check.parses("6, although 0 says 1 too", "that", "coded 4", "[] c2 word 4.0 by 6");
        Check.parses("7, although 1 says 2 too", "with", "coded 4", "[] c2 word 4.1 by 7");
        Check.parses("8, although 2 says 4 too", "have", "coded 4", "[] c2 word 4.3 by 8");
        Check.parses("9, although 3 says 8 too", "Have", "coded 4", "[] c2 word 4.7 by 9");
        Check.parses("13: 65 and more", "a".repeat(64) + "that", "coded 48", "[a] c6 copy 47 from 1 by 0",
            "coded 20", "[] c5 copy 16 from 1 by 0", "[] c2 word 4.0 by 13");
        Check.parses("12: 64", "a".repeat(63) + "that", "coded 48", "[a] c6 copy 47 from 1 by 0",
            "coded 19", "[] c5 copy 15 from 1 by 0", "[] c2 word 4.0 by 12");
        Check.parses("the farthest word", "a".repeat(92) + "bout", "coded 48", "[a] c6 copy 47 from 1 by 0",
            "coded 48", "[] c6 copy 44 from 1 by 0", "[] c3 word 5.15 by 13");
        Check.parses("words do not become latest distances", "thatbbbb", "coded 8",
            "[] c2 word 4.0 by 6", "[b] c7 copy 3 from 1");
        Check.parses("also the second time", "withbbbb", "coded 8",
            "[] c2 word 4.1 by 7", "[b] c7 copy 3 from 1");
    }
}
