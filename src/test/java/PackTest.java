/** Promise 6, against streams that were written by hand from the document. */
public final class PackTest {
    public static void main(String[] args) {
        emptyAndRaw();
        copies();
        copyLengths();
        words();
        wordOrCopy();
        simpleCodes();
        longCode();
        mapOfLiterals();
        distances();
        blocksOf48();
        rawBlockLeavesDistances();
        packTwice();
        Check.finish();
    }

    private static void packs(String name, String text, BitsOut want) {
        RingPacker x = Check.withText(Check.bytes(text));
        Check.due(name + ": pack()", x.pack(), want.bytes().length);
        Check.due(name + ": stream", Check.streamOf(x), want.bytes());
        Check.due(name + ": text stays", Check.textOf(x), Check.bytes(text));
        x.clear();
        Check.due(name + ": unpack()", x.unpack(), text.length());
        Check.due(name + ": text again", Check.textOf(x), Check.bytes(text));
    }

    private static BitsOut block(boolean last, int length, String map) {
        return new BitsOut().head(last, true, length).raw(map);
    }

    private static void emptyAndRaw() {
        packs("no bytes", "", new BitsOut().raw("11"));
        packs("one byte", "\u0000", new BitsOut().rawBlock(true, "\u0000"));
        packs("three bytes", "\u0000\u00ff\u0007", new BitsOut().rawBlock(true, "\u0000\u00ff\u0007"));
        packs("a word's rest of three bytes is no word", "hat", new BitsOut().rawBlock(true, "hat"));
    }

    private static void copies() {
        packs("three from the latest distance", "aaaa",
            block(true, 4, "0").simple(8, 'a').simple(5, 15).simple(4, 0));
        packs("four from the latest distance", "aaaaa",
            block(true, 5, "0").simple(8, 'a').simple(5, 10).simple(4, 0));
        packs("the nearest of two equal copies", "abcdZabcdYabcd",
            block(true, 14, "0")
                .raw("0").raw("111 1111 111 1111 111 1111 111 1111 111").num(89 - 72 - 3, 4)
                .num(2, 3).num(2, 3).raw("111").num(97 - 91 - 3, 4)
                .num(3, 3).num(3, 3).num(3, 3).num(3, 3)
                .simple(5, 10, 18).simple(4, 0, 9)
                .raw("1").num(5 - 2, 2).raw("100 101 110 111 01").raw("1").num(0, 2)
                .raw("0").raw("00").raw("0"));
    }

    /** 'a' and then a copy of m bytes of it: each c with its copy bits. */
    private static void copyLengths() {
        int[][] rows = {{5, 3, 0, 0}, {6, 4, 0, 2}, {9, 4, 3, 2}, {10, 5, 0, 4}, {25, 5, 15, 4},
            {26, 6, 0, 5}, {47, 6, 21, 5}};
        for (int[] row : rows) {
            packs("a copy of " + row[0], "a".repeat(row[0] + 1),
                block(true, row[0] + 1, "0").simple(8, 'a').simple(5, 8 + row[1]).simple(4, 0)
                    .num(row[2], row[3]));
        }
    }

    private static void words() {
        packs("that", "that", block(true, 4, "0").simple(8, 0).simple(5, 2).simple(4, 6));
        packs("with", "with", block(true, 4, "0").simple(8, 0).simple(5, 2).simple(4, 7));
        packs("from", "from", block(true, 4, "0").simple(8, 0).simple(5, 2).simple(4, 8).num(0, 1));
        packs("That", "That", block(true, 4, "0").simple(8, 0).simple(5, 2).simple(4, 9).num(0, 2));
        packs("have and a blank", "have ",
            block(true, 5, "0").simple(8, 0).simple(5, 2).simple(4, 10).num(3, 3));
        packs("about and a blank", "about ",
            block(true, 6, "0").simple(8, 0).simple(5, 3).simple(4, 10).num(3, 3));
        packs("About", "About", block(true, 5, "0").simple(8, 0).simple(5, 3).simple(4, 9).num(3, 2));
        packs("hich", "hich", block(true, 4, "0").simple(8, 0).simple(5, 3).simple(4, 10).num(4, 3));
        packs("about without its a", "bout",
            block(true, 4, "0").simple(8, 0).simple(5, 3).simple(4, 10).num(7, 3));
        packs("a word behind a literal", "!that",
            block(true, 5, "0").simple(8, '!').simple(5, 10).simple(4, 7));
    }

    private static void wordOrCopy() {
        packs("a word no longer than the copy is a copy", "that that",
            block(true, 9, "0").simple(8, 0).simple(5, 2).simple(4, 9, 10)
                .raw("1").num(0, 3).raw("0").num(0, 2));
        packs("a word longer than the copy is a word", "thatthat ",
            block(true, 9, "0").simple(8, 0).simple(5, 2).simple(4, 6, 10)
                .raw("0").raw("1").num(4 + 1 + 8 - 9, 3));
        packs("words do not become latest distances", "thatbbbb",
            block(true, 8, "0").simple(8, 'b').simple(5, 2, 15).simple(4, 6).raw("0 1"));
    }

    private static void simpleCodes() {
        packs("the one of three that occurs most often comes first", "cacbccab",
            block(true, 8, "0").simple(8, 'c', 'a', 'b').simple(5, 24).simple(4, 0)
                .num(2, 6).raw("0 10 0 11 0 0 10 11"));
        packs("of three equally frequent the least comes first", "cabcbbaca",
            block(true, 9, "0").simple(8, 'a', 'b', 'c').simple(5, 24).simple(4, 0)
                .num(3, 6).raw("11 0 10 11 10 10 0 11 0"));
        packs("two symbols", "ababb" + "aa",
            block(true, 7, "0").simple(8, 'a', 'b').simple(5, 24).simple(4, 0)
                .num(1, 6).raw("0 1 0 1 1 0 0"));
    }

    private static void longCode() {
        // Times 6 4 3 2 1 of 16 give the bits 2 2 3 3 4 with 12 of SPACE left: c and then e get one less.
        packs("five symbols", "aabacadabbcbcaed",
            block(true, 16, "0").raw("0")
                .raw("111 1111 111 1111 111 1111 111 1111 111 1111").raw("111").num(97 - 90 - 3, 4)
                .num(2, 3).num(2, 3).num(2, 3).num(3, 3).num(3, 3)
                .simple(5, 24).simple(4, 0).num(10, 6)
                .raw("00 00 01 00 10 00 110 00 01 01 10 01 10 00 111 110"));
    }

    private static void mapOfLiterals() {
        packs("capitals behind small letters", "aXaYbYbX",
            block(true, 8, "1").simple(8, 'a', 'b').simple(8, 'X', 'Y').simple(5, 24).simple(4, 0)
                .num(2, 6).raw("00 01 11 10"));
        packs("z is a small letter, the byte behind it is not", "zXzYbYbX",
            block(true, 8, "1").simple(8, 'b', 'z').simple(8, 'X', 'Y').simple(5, 24).simple(4, 0)
                .num(2, 6).raw("10 11 01 00"));
    }

    /** A raw start, then a copy of 3 to 6 bytes at distances that each symbol says. */
    private static void distances() {
        String start = rawStart();
        int[][] rows = {{2, 1, 0, 0}, {4, 2, 0, 0}, {8, 3, 0, 0}, {3, 8, 0, 1}, {5, 9, 0, 2},
            {7, 9, 2, 2}, {9, 10, 0, 3}, {16, 10, 7, 3}, {17, 11, 0, 4}, {32, 11, 15, 4}, {33, 12, 0, 5},
            {48, 12, 15, 5}};
        for (int[] row : rows) {
            StringBuilder text = new StringBuilder(start);
            for (int k = 0; k < 6; k++) {
                text.append(text.charAt(text.length() - row[0]));
            }
            BitsOut want = new BitsOut().rawBlock(false, start).head(true, true, 6).raw("0")
                .simple(8, 0).simple(5, 4).simple(4, row[1]).num(0, 2).num(row[2], row[3]);
            packs("distance " + row[0], text.toString(), want);
        }
        near("the fourth is forgotten, latest - 1", 9, 8, 0, 4);
        near("latest - 1", 11, 10, 2, 4);
        near("latest + 1", 11, 12, 2, 5);
        near("the one before becomes the second", 10, 2, 1, 2);
        near("the third becomes the fourth", 10, 4, 1, 3);
    }

    /** Two copies of 6 bytes: the first at 9 .. 16 by symbol 10, the second by the ring. */
    private static void near(String name, int d1, int d2, int extra, int symbol) {
        StringBuilder text = new StringBuilder(rawStart());
        for (int k = 0; k < 12; k++) {
            text.append(text.charAt(text.length() - (k < 6 ? d1 : d2)));
        }
        packs(name + ": " + d1 + " and " + d2, text.toString(),
            new BitsOut().rawBlock(false, rawStart()).head(true, true, 12).raw("0")
                .simple(8, 0).simple(5, 4).simple(4, symbol, 10)
                .num(0, 2).raw("1").num(extra, 3).num(0, 2).raw("0"));
    }

    private static String rawStart() {
        StringBuilder row = new StringBuilder();
        for (int k = 0; k < 48; k++) {
            row.append((char) (k * 5 % 256));
        }
        return row.toString();
    }

    private static void blocksOf48() {
        packs("48 bytes are one block", "a".repeat(48),
            block(true, 48, "0").simple(8, 'a').simple(5, 14).simple(4, 0).num(21, 5));
        packs("49 bytes are two", "a".repeat(49),
            block(false, 48, "0").simple(8, 'a').simple(5, 14).simple(4, 0).num(21, 5)
                .rawBlock(true, "a"));
        packs("60 bytes", "a".repeat(60),
            block(false, 48, "0").simple(8, 'a').simple(5, 14).simple(4, 0).num(21, 5)
                .head(true, true, 12).raw("0").simple(8, 0).simple(5, 5).simple(4, 0).num(2, 4));
        packs("96 bytes", "a".repeat(96),
            block(false, 48, "0").simple(8, 'a').simple(5, 14).simple(4, 0).num(21, 5)
                .head(true, true, 48).raw("0").simple(8, 0).simple(5, 6).simple(4, 0).num(22, 5));
    }

    private static void rawBlockLeavesDistances() {
        StringBuilder text = new StringBuilder(rawStart());
        for (int k = 20; k < 23; k++) {
            text.setCharAt(k, text.charAt(k - 10));
        }
        String start = text.toString();
        while (text.length() < 96) {
            text.append(text.charAt(text.length() - 10));
        }
        packs("the copy in a raw block does not count", text.toString(),
            new BitsOut().rawBlock(false, start).head(true, true, 48).raw("0")
                .simple(8, 0).simple(5, 6).simple(4, 10).num(22, 5).num(1, 3));
    }

    private static void packTwice() {
        RingPacker x = Check.withText(Check.bytes("a".repeat(60)));
        x.pack();
        int[] first = Check.streamOf(x);
        x.pack();
        Check.due("pack again: stream", Check.streamOf(x), first);
        Check.setText(x, Check.bytes("that"));
        x.pack();
        Check.due("pack another text", Check.streamOf(x),
            block(true, 4, "0").simple(8, 0).simple(5, 2).simple(4, 6).bytes());
        x.clear();
        Check.due("pack no text", x.pack(), 1);
        Check.due("its byte", x.byteAt(0), 3);
    }
}
