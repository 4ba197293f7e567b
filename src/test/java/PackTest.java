/** Promise 6, and streams that were written by hand from the document, bit by bit. */
public final class PackTest {
    public static void main(String[] args) {
        becomesThatOfTheText();
        answersItsBytes();
        textStays();
        rawBlocks();
        copyBits();
        distanceBits();
        insertBits();
        words();
        wordsAndCopies();
        longestStreams();
        Check.finish();
    }

    private static BitsOut block(int length) {
        return new BitsOut().head(true, true, length).raw("0");
    }

    private static void becomesThatOfTheText() {
        Check.says("The stream becomes that of the text (the text stays);");
        Box x = Check.withText("aaaa");
        int[] want = block(4).simple(8, 'a').simple(5, 15).simple(4, 0).bytes();
        Check.setStream(x, new int[] {9, 8, 7, 6, 5, 4, 3, 2, 1, 0});
        Check.due("pack over a longer stream", x.pack(), want.length);
        new State(Check.bytes("aaaa"), want, 1, 1, 0, 2).due("packed", x);
        Check.due("pack again", x.pack(), want.length);
        new State(Check.bytes("aaaa"), want, 1, 1, 0, 2).due("packed again", x);
        x.put('b');
        Check.due("the stream stays until the next pack", Check.streamOf(x), want);
        x.clear();
        Check.due("pack no text", x.pack(), 1);
        new State(new int[0], new int[] {3}, 0, 0, 0, 0).due("no text", x);
    }

    private static void answersItsBytes() {
        Check.says("answers how many bytes it has.");
        String[] texts = {"", "a", "ab", "aaaa", "that that", "aXaYbYbX"};
        int[] sizes = {1, 3, 4, 5, 6, 10};
        for (int k = 0; k < texts.length; k++) {
            Box x = Check.withText(texts[k]);
            Check.due("\"" + texts[k] + "\"", x.pack(), sizes[k]);
            Check.due("size of \"" + texts[k] + "\"", x.size(), sizes[k]);
            Check.due("behind \"" + texts[k] + "\"", x.byteAt(sizes[k]), -1);
        }
    }

    private static void textStays() {
        Check.says("(the text stays);");
        for (String text : new String[] {"", "a", "that that", "aXaYbYbX", "a".repeat(96)}) {
            Box x = Check.withText(text);
            x.pack();
            Check.due("length of " + text, x.length(), text.length());
            Check.due("text of " + text, Check.textOf(x), Check.bytes(text));
        }
    }

    private static void rawBlocks() {
        Check.says("Not CODED: the bits up to the end of the byte under way, if one is, must be 0;");
        Check.packs("one byte", "\u0000", new BitsOut().rawBlock(true, "\u0000"));
        Check.packs("three bytes", "\u0000\u00ff\u0007", new BitsOut().rawBlock(true, "\u0000\u00ff\u0007"));
        Check.packs("a word's rest of three bytes", "hat", new BitsOut().rawBlock(true, "hat"));
    }

    private static void copyBits() {
        Check.says("m: 2, 3, 4, 5 for c = 0 .. 3; 6 + a number of 2 bits for c = 4; "
            + "10 + a number of 4 bits for c = 5;");
        Check.packs("three from the latest distance", "aaaa",
            block(4).simple(8, 'a').simple(5, 15).simple(4, 0));
        for (int m = 4; m <= 47; m++) {
            int c = m < 6 ? m - 2 : m < 10 ? 4 : m < 26 ? 5 : 6;
            int base = new int[] {2, 3, 4, 5, 6, 10, 26}[c];
            int bits = new int[] {0, 0, 0, 0, 2, 4, 5}[c];
            Check.packs("a copy of " + m, "a".repeat(m + 1),
                block(m + 1).simple(8, 'a').simple(5, 8 + c).simple(4, 0).num(m - base, bits));
        }
        Check.packs("a copy of 48", "a".repeat(96),
            new BitsOut().head(false, true, 48).raw("0").simple(8, 'a').simple(5, 14).simple(4, 0).num(21, 5)
                .head(true, true, 48).raw("0").simple(8, 0).simple(5, 6).simple(4, 0).num(22, 5));
    }

    private static String different() {
        StringBuilder row = new StringBuilder();
        for (int k = 0; k < 48; k++) {
            row.append((char) (k * 5 % 256));
        }
        return row.toString();
    }

    /** 48 raw bytes, then a copy of 6 bytes from each distance that there is. */
    private static void distanceBits() {
        Check.says("6: 1; 7: 2; 8: 3 + a number of 1 bit; 9: 5 + 2 bits; 10: 9 + 3 bits; 11: 17 + 4 bits; "
            + "12: 33 + 5 bits; 13: 65 + 6 bits.");
        int[] base = {1, 2, 3, 5, 9, 17, 33};
        for (int d = 1; d <= 48; d++) {
            StringBuilder text = new StringBuilder(different());
            for (int k = 0; k < 6; k++) {
                text.append(text.charAt(text.length() - d));
            }
            int k = 0;
            while (k < 6 && base[k + 1] <= d) {
                k++;
            }
            BitsOut want = new BitsOut().rawBlock(false, different()).head(true, true, 6).raw("0")
                .simple(8, 0).simple(5, 4);
            if (d == 1 || d == 2 || d == 4 || d == 8) {
                want.simple(4, d == 8 ? 3 : d / 2).num(0, 2);
            } else {
                want.simple(4, 6 + k).num(0, 2).num(d - base[k], Math.max(0, k - 1));
            }
            Check.packs("from " + d, text.toString(), want);
        }
    }

    private static void insertBits() {
        Check.says("n: 0, 1 for i = 0, 1; 2 + a number of 2 bits for i = 2; "
            + "6 + a number of 6 bits for i = 3.");
        // Each three letters of this row stand in it once, so that all are literals.
        String row = "aaabaacaadabbabcabdacbaccacdadbadcaddbbbcbbdbccb";
        for (int n = 14; n <= 48; n++) {
            BitsOut want = block(n).simple(8, 'a', 'b', 'c', 'd').simple(5, 24).simple(4, 0).num(n - 6, 6);
            for (char c : row.substring(0, n).toCharArray()) {
                want.raw(new String[] {"00", "01", "10", "11"}[c - 'a']);
            }
            Check.packs(n + " literals", row.substring(0, n), want);
        }
        Check.packs("1 literal and three from 1", "QQQQ", block(4).simple(8, 'Q').simple(5, 15).simple(4, 0));
        for (int n = 2; n <= 5; n++) {
            String literals = "QQRRQ".substring(5 - n);
            Check.packs(n + " literals and three from 1", literals + "QQQ",
                block(n + 3).simple(8, 'Q', 'R').simple(5, 23).simple(4, 0).num(n - 2, 2)
                    .raw(literals.replace('Q', '0').replace('R', '1')));
        }
        for (int n = 6; n <= 7; n++) {
            String literals = "SSQQRRQ".substring(7 - n);
            Check.packs(n + " literals and three from 1", literals + "QQQ",
                block(n + 3).simple(8, 'Q', 'R', 'S').simple(5, 31).simple(4, 0).num(n - 6, 6)
                    .raw(literals.replace("Q", "0").replace("R", "10").replace("S", "11")));
        }
    }

    private static void words() {
        Check.says("If d is greater than THERE, d - THERE - 1 is x, and the copy is a WORD");
        Check.packs("that", "that", block(4).simple(8, 0).simple(5, 2).simple(4, 6));
        Check.packs("with", "with", block(4).simple(8, 0).simple(5, 2).simple(4, 7));
        Check.packs("from", "from", block(4).simple(8, 0).simple(5, 2).simple(4, 8).num(0, 1));
        Check.packs("have", "have", block(4).simple(8, 0).simple(5, 2).simple(4, 8).num(1, 1));
        Check.packs("That", "That", block(4).simple(8, 0).simple(5, 2).simple(4, 9).num(0, 2));
        Check.packs("have and a blank", "have ",
            block(5).simple(8, 0).simple(5, 2).simple(4, 10).num(3, 3));
        Check.packs("about and a blank", "about ",
            block(6).simple(8, 0).simple(5, 3).simple(4, 10).num(3, 3));
        Check.packs("About", "About", block(5).simple(8, 0).simple(5, 3).simple(4, 9).num(3, 2));
        Check.packs("hich", "hich", block(4).simple(8, 0).simple(5, 3).simple(4, 10).num(4, 3));
        Check.packs("bout", "bout", block(4).simple(8, 0).simple(5, 3).simple(4, 10).num(7, 3));
        Check.packs("a word behind a literal", "!that",
            block(5).simple(8, '!').simple(5, 10).simple(4, 7));
    }

    private static void wordsAndCopies() {
        Check.says("A command is made of each copy or word with the literals since the one before (or since p),");
        Check.packs("a word and a copy", "that that",
            block(9).simple(8, 0).simple(5, 2).simple(4, 9, 10).raw("1").num(0, 3).raw("0").num(0, 2));
        Check.packs("two words", "thatthat ",
            block(9).simple(8, 0).simple(5, 2).simple(4, 6, 10).raw("0").raw("1").num(4 + 1 + 8 - 9, 3));
        Check.packs("a word, and a copy from the latest distance", "thatbbbb",
            block(8).simple(8, 'b').simple(5, 2, 15).simple(4, 6).raw("0 1"));
    }

    private static void longestStreams() {
        Check.says("STREAM: at most 200 bytes 0 .. 255.");
        StringBuilder text = new StringBuilder();
        for (int k = 0; k < 96; k++) {
            text.append((char) (k * 7 % 256));
        }
        Check.packs("96 different bytes", text.toString(), new BitsOut().rawBlock(false, text.substring(0, 48))
            .rawBlock(true, text.substring(48)));
        Box x = Check.withText(text.toString());
        Check.due("they make 99 bytes", x.pack(), 1 + 48 + 2 + 48);
    }
}
