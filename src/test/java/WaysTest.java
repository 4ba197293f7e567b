/** The last part of PACKING: in which of three ways a block is written, and what that does. */
public final class WaysTest {
    private static final String RAW = "raw";
    private static final String CODED = "coded";
    private static final String MAPPED = "mapped";

    public static void main(String[] args) {
        endsEarliest();
        severalSuch();
        endsEarliestInTheStream();
        severalSuchInTheSecondBlock();
        mapOfLiterals();
        lastAndEmpty();
        latestOfRawBlocks();
        latestOfCodedBlocks();
        bitsLeftOver();
        eachPackBeginsAnew();
        Check.finish();
    }

    /** The ways end after these bits, says the model; the block is then written in the way that is due. */
    private static void way(String text, int block, int raw, int coded, int mapped, String want) {
        Check.due("where the ways of \"" + text + "\" end", Model.pack(Check.bytes(text)).ends.get(block),
            new int[] {raw, coded, mapped});
        int seen = -1;
        String got = "";
        for (String row : Model.unpack(Check.packed(text, text)).commands) {
            seen += row.startsWith("[") ? 0 : 1;
            if (seen == block && !row.startsWith("[")) {
                got = row.substring(0, row.indexOf(' '));
            }
        }
        Check.due("block " + block + " of \"" + text + "\" is " + got + ", due is " + want,
            got.equals(want), true);
    }

    private static void endsEarliest() {
        Check.says("Each block is written in that way of three which ends earliest in the stream: "
            + "not CODED; CODED with MAP 0; CODED with MAP 1;");
        way("210c10c", 0, 72, 71, 82, CODED);
        way("bYXXXXYZ", 0, 80, 81, 90, RAW);
        way("12a02111", 0, 80, 82, 79, MAPPED);
        way("aDaD", 0, 48, 50, 49, RAW);
        way("a aaaa.", 0, 72, 67, 66, MAPPED);
        way("b.b.b", 0, 56, 48, 49, CODED);
    }

    private static void severalSuch() {
        Check.says("of several such the first one.");
        way("xZZXZZXY", 0, 80, 80, 89, RAW);
        way("cDaDcD", 0, 64, 67, 64, RAW);
        way(".b    ", 0, 64, 59, 59, CODED);
        way("bbab1cbbb112", 0, 112, 112, 112, RAW);
    }

    /** Behind 48 bytes that end at a byte's end, or in the midst of one: the raw bytes begin earlier there. */
    private static void endsEarliestInTheStream() {
        Check.says("which ends earliest in the stream:");
        String at40 = "A".repeat(48);
        String at52 = "AB".repeat(24);
        String at57 = "A".repeat(47) + "B";
        String at54 = "AAB".repeat(16);
        way(at40 + "xxxxX", 1, 96, 93, 94, CODED);
        way(at52 + "xxxxX", 1, 104, 105, 106, RAW);
        way(at57 + "xxxxX", 1, 112, 110, 111, CODED);
        way(at54 + "xxxxX", 1, 104, 107, 108, RAW);
        way(at40 + "xyyzyzz", 1, 112, 109, 107, MAPPED);
        way(at54 + "xyyzyzz", 1, 120, 123, 121, RAW);
    }

    private static void severalSuchInTheSecondBlock() {
        Check.says("of several such the first one.");
        String at40 = "A".repeat(48);
        String at52 = "AB".repeat(24);
        way(at52 + "yyyyzxyzxw", 1, 144, 144, 144, RAW);
        way(at40 + "yyyyzxyzxw", 1, 136, 126, 126, CODED);
        way(at40 + "xXyxXyXY", 1, 120, 122, 120, RAW);
        way(at40 + "yxYYxYYX", 1, 120, 120, 128, RAW);
    }

    private static void mapOfLiterals() {
        Check.says("CODED with MAP 1;");
        Check.packs("capitals behind small letters", "aXaYbYbX",
            new BitsOut().head(true, true, 8).raw("1").simple(8, 'a', 'b').simple(8, 'X', 'Y')
                .simple(5, 24).simple(4, 0).num(2, 6).raw("00 01 11 10"));
        // [XcXcY] copy 3 from 2, [X]: the first X stands behind the a of the block before.
        Check.packs("the byte before the block counts too", "a".repeat(48) + "XcXcYcYcX",
            new BitsOut().head(false, true, 48).raw("0").simple(8, 'a').simple(5, 14).simple(4, 0).num(21, 5)
                .head(true, true, 9).raw("1").simple(8, 'c').simple(8, 'X', 'Y').simple(5, 8, 17).simple(4, 1)
                .raw("1").num(3, 2).raw("0 0 1").raw("0").raw("0"));
    }

    private static void lastAndEmpty() {
        Check.says("In it LAST is 1 in the last block alone, and EMPTY is 0.");
        Check.due("one raw block", Check.packed("A", "A"), new int[] {0b001, 0, 'A'});
        Check.due("one coded block: LAST 1, EMPTY 0, CODED 1", Check.packed("aaaa", "aaaa")[0] & 7, 0b101);
        int[] two = Check.packed("two blocks", "a".repeat(60));
        Check.due("the first of two: LAST 0, CODED 1", two[0] & 3, 0b10);
        Check.packs("two coded blocks", "a".repeat(60),
            new BitsOut().raw("0 1").num(47, 6).raw("0").simple(8, 'a').simple(5, 14).simple(4, 0).num(21, 5)
                .raw("1 0 1").num(11, 6).raw("0").simple(8, 0).simple(5, 5).simple(4, 0).num(2, 4));
        Check.packs("a coded block and a raw one", "a".repeat(48) + "b",
            new BitsOut().raw("0 1").num(47, 6).raw("0").simple(8, 'a').simple(5, 14).simple(4, 0).num(21, 5)
                .raw("1 0 0").num(0, 6).align().num('b', 8));
    }

    private static String different() {
        StringBuilder row = new StringBuilder();
        for (int k = 0; k < 48; k++) {
            row.append((char) (k * 5 % 256));
        }
        return row.toString();
    }

    private static String goneOn(String start, int d, int length) {
        StringBuilder text = new StringBuilder(start);
        while (text.length() < length) {
            text.append(text.charAt(text.length() - d));
        }
        return text.toString();
    }

    private static void latestOfRawBlocks() {
        Check.says("The distances of copies in a block that is not CODED do not become latest distances.");
        StringBuilder start = new StringBuilder(different());
        for (int k = 20; k < 24; k++) {
            start.setCharAt(k, start.charAt(k - 10));
        }
        Check.parses("a copy from 10 in a raw block", goneOn(start.toString(), 10, 96), "raw 48", "coded 48",
            "[] c6 copy 48 from 10 by 10");
        Check.parses("the latest is still 1", goneOn(start.toString(), 1, 51), "raw 48", "coded 3",
            "[] c7 copy 3 from 1");
        Check.parses("and 8 is not forgotten", goneOn(start.toString(), 8, 56), "raw 48", "coded 8",
            "[] c4 copy 8 from 8 by 3");
    }

    private static void latestOfCodedBlocks() {
        Check.says("At the beginning of a stream the four are, from the latest on, 1, 2, 4, 8.");
        String start = goneOn("abcdefghij", 10, 48);
        Check.parses("a copy from 10 in a coded block", goneOn(start, 10, 96), "coded 48",
            "[abcdefghij] c6 copy 38 from 10 by 10", "coded 48", "[] c6 copy 48 from 10 by 0");
        Check.parses("three from 10", goneOn(start, 10, 51), "coded 48",
            "[abcdefghij] c6 copy 38 from 10 by 10", "coded 3", "[] c7 copy 3 from 10");
        Check.parses("1 is the second latest then", goneOn(start, 1, 56), "coded 48",
            "[abcdefghij] c6 copy 38 from 10 by 10", "coded 8", "[] c4 copy 8 from 1 by 1");
    }

    private static void bitsLeftOver() {
        Check.says("The bits left over in the last byte are 0.");
        for (String text : new String[] {"", "a", "aaaa", "aaaaa", "abbaba", "bbbaabb", "that that", "aXaYbYbX"}) {
            Box x = Check.withText(text);
            for (int k = 0; k < 200; k++) {
                x.append(255);
            }
            x.pack();
            Check.due("behind 200 bytes of 255: \"" + text + "\"", Check.streamOf(x),
                Model.pack(Check.bytes(text)).bytes);
        }
        Check.due("no bytes", Check.packed("no bytes", "")[0] >> 2, 0);
        Check.due("raw: seven bits before its bytes", Check.packed("a", "a"), new int[] {1, 0, 'a'});
    }

    private static void eachPackBeginsAnew() {
        Check.says("At the beginning of a stream the four are, from the latest on, 1, 2, 4, 8.");
        Box x = Check.withText(goneOn("abcdefghij", 10, 40));
        x.pack();
        int[] first = Check.streamOf(x);
        x.pack();
        Check.due("the same text again", Check.streamOf(x), first);
        Check.setText(x, Check.bytes("aaaa"));
        x.pack();
        Check.due("another text", Model.unpack(Check.streamOf(x)).commands, "coded 4", "[a] c7 copy 3 from 1");
    }
}
