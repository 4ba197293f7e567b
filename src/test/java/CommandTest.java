/** The Term CODED BLOCK, by streams that are unpacked. */
public final class CommandTest {
    private static final int[] INSERT_BASE = {0, 1, 2, 6};
    private static final int[] INSERT_BITS = {0, 0, 2, 6};
    private static final int[] COPY_BASE = {2, 3, 4, 5, 6, 10, 26, 3};
    private static final int[] COPY_BITS = {0, 0, 0, 0, 2, 4, 5, 0};

    public static void main(String[] args) {
        orderOfCodes();
        commandsUntilTheLength();
        everyCommand();
        insertBitsThenCopyBits();
        insertLengths();
        copyLengths();
        copyAtTheLatest();
        literalsAreSymbols();
        mapAtItsEdges();
        mapWithoutByteBefore();
        mapBehindOtherBytes();
        noMap();
        lengthBehindLiterals();
        Check.finish();
    }

    private static BitsOut coded(int length) {
        return new BitsOut().head(true, true, length).raw("0");
    }

    private static void orderOfCodes() {
        Check.says("CODED BLOCK: bit MAP; literal code A; if MAP is 1, literal code B; command code; "
            + "distance code;");
        Check.yields("MAP 0: three codes", "ababa",
            coded(5).simple(8, 'a', 'b').simple(5, 17).simple(4, 7).num(0, 2).raw("0 1"));
        Check.yields("MAP 1: four codes", "aBaBa", new BitsOut().head(true, true, 5).raw("1")
            .simple(8, 'a').simple(8, 'B').simple(5, 17).simple(4, 7).num(0, 2));
        Check.yields("MAP 1: A is the first, B the second", "AaBAaBA",
            new BitsOut().head(true, true, 7).raw("1")
                .simple(8, 'A', 'a').simple(8, 'B').simple(5, 18).simple(4, 8).num(1, 2).raw("0 1").num(0, 1));
        Check.fails("MAP 1 with three codes", new BitsOut().head(true, true, 5).raw("1")
            .simple(8, 'a').simple(5, 17).simple(4, 7).num(0, 2));
    }

    private static void commandsUntilTheLength() {
        Check.says("then COMMANDS until the block has yielded its length.");
        for (int commands = 1; commands <= 5; commands++) {
            Check.yields(commands + " commands of a literal and two bytes", "q".repeat(3 * commands),
                coded(3 * commands).simple(8, 'q').simple(5, 8).simple(4, 0));
        }
        Check.yields("64 bytes by 32 commands without literals", "q".repeat(65),
            new BitsOut().rawBlock(false, "q").head(true, true, 64).raw("0")
                .simple(8, 'q').simple(5, 0).simple(4, 6));
        // [abc] copy 3 from 3, [XY] copy 2 from 2; X 00, Y 01, a 10, b 110, c 111.
        Check.yields("the next command begins behind the copy", "abcabcXYXY",
            coded(10).raw("0").run(18).run(18).run(18).run(18).run(16).lengths(2, 2).run(7).lengths(2, 3, 3)
                .simple(5, 16, 17).simple(4, 7, 8)
                .raw("1").num(1, 2).raw("10 110 111").raw("1").num(0, 1)
                .raw("0").num(0, 2).raw("00 01").raw("0"));
    }

    /** For all 32 symbols, with the least and the greatest numbers that fit: n literals and m bytes. */
    private static void everyCommand() {
        Check.says("a symbol 8 * i + c (i from 0 to 3, c from 0 to 7) by the command code;");
        for (int symbol = 0; symbol < 32; symbol++) {
            int i = symbol / 8;
            int c = symbol % 8;
            int mostInserts = Math.min(INSERT_BASE[i] + (1 << INSERT_BITS[i]) - 1, 64 - COPY_BASE[c]);
            for (int n : new int[] {INSERT_BASE[i], mostInserts}) {
                int mostCopied = Math.min(COPY_BASE[c] + (1 << COPY_BITS[c]) - 1, 64 - n);
                for (int m : new int[] {COPY_BASE[c], mostCopied}) {
                    oneCommand(symbol, n, m);
                }
            }
        }
    }

    private static void oneCommand(int symbol, int n, int m) {
        String name = "symbol " + symbol + ", " + n + " literals, " + m + " bytes";
        String text = "UVWXYZ" + "q".repeat(n);
        for (int k = 0; k < m; k++) {
            text += text.charAt(text.length() - (symbol % 8 == 7 ? 1 : 5));
        }
        Check.yields(name, text, oneCommand(symbol, n, m, n + m));
        Check.fails(name + ", a byte more than the block", oneCommand(symbol, n, m, n + m - 1));
        if (n > 0) {
            Check.yields(name + ", the block ends before the copy", "UVWXYZ" + "q".repeat(n),
                oneCommand(symbol, n, m, n, false));
        }
        if (n > 1) {
            Check.fails(name + ", a literal more than the block", oneCommand(symbol, n, m, n - 1));
        }
    }

    private static BitsOut oneCommand(int symbol, int n, int m, int length) {
        return oneCommand(symbol, n, m, length, symbol % 8 != 7);
    }

    /** Behind six raw bytes a block of one command; its distance, if one follows, is 5. */
    private static BitsOut oneCommand(int symbol, int n, int m, int length, boolean distance) {
        int i = symbol / 8;
        int c = symbol % 8;
        return new BitsOut().rawBlock(false, "UVWXYZ").head(true, true, length).raw("0")
            .simple(8, 'q').simple(5, symbol).simple(4, 9)
            .num(n - INSERT_BASE[i], INSERT_BITS[i]).num(m - COPY_BASE[c], COPY_BITS[c])
            .num(0, distance ? 2 : 0);
    }

    private static void insertBitsThenCopyBits() {
        Check.says("the insert bits; the copy bits; then the literals, n of them,");
        Check.yields("3 literals and 8 bytes, then the literals, then the distance", "abaabaabaab",
            coded(11).simple(8, 'a', 'b').simple(5, 20).simple(4, 8)
                .num(1, 2).num(2, 2).raw("0 1 0").num(0, 1));
        Check.yields("7 literals and 13 bytes", "abababb" + "b".repeat(13),
            coded(20).simple(8, 'a', 'b').simple(5, 29).simple(4, 6)
                .num(1, 6).num(3, 4).raw("0 1 0 1 0 1 1"));
    }

    private static void insertLengths() {
        Check.says("n: 0, 1 for i = 0, 1; 2 + a number of 2 bits for i = 2; "
            + "6 + a number of 6 bits for i = 3.");
        for (int n = 1; n <= 64; n++) {
            int i = n < 2 ? n : n < 6 ? 2 : 3;
            Check.yields(n + " literals", "q".repeat(n), coded(n).simple(8, 'q').simple(5, 8 * i).simple(4, 0)
                .num(n - INSERT_BASE[i], INSERT_BITS[i]));
        }
        Check.yields("0 literals", "with", coded(4).simple(8, 'q').simple(5, 2).simple(4, 7));
        Check.fails("65 literals", coded(64).simple(8, 'q').simple(5, 24).simple(4, 0).num(59, 6));
        Check.fails("69 literals", coded(64).simple(8, 'q').simple(5, 24).simple(4, 0).num(63, 6));
    }

    private static void copyLengths() {
        Check.says("m: 2, 3, 4, 5 for c = 0 .. 3; 6 + a number of 2 bits for c = 4; "
            + "10 + a number of 4 bits for c = 5;");
        for (int m = 2; m <= 57; m++) {
            int c = m < 6 ? m - 2 : m < 10 ? 4 : m < 26 ? 5 : 6;
            Check.yields("a copy of " + m, "UVWXYZ" + "Z".repeat(m),
                new BitsOut().rawBlock(false, "UVWXYZ").head(true, true, m).raw("0").simple(8, 0)
                    .simple(5, c).simple(4, 6).num(m - COPY_BASE[c], COPY_BITS[c]));
        }
        Check.says("26 + a number of 5 bits for c = 6;");
        Check.yields("a copy of 26", "q".repeat(27),
            coded(27).simple(8, 'q').simple(5, 14).simple(4, 6).num(0, 5));
        Check.yields("a copy of 57", "q".repeat(58),
            coded(58).simple(8, 'q').simple(5, 14).simple(4, 6).num(31, 5));
        Check.fails("a copy of 57 in a block of 57",
            coded(57).simple(8, 'q').simple(5, 14).simple(4, 6).num(31, 5));
    }

    private static void copyAtTheLatest() {
        Check.says("3 for c = 7, and then no distance follows: d is the latest distance.");
        Check.yields("1 at first", "abbbb", coded(5).simple(8, 'a', 'b').simple(5, 23).simple(4, 5, 6)
            .num(0, 2).raw("0 1"));
        // [abc] copy 2 from 3, [Z] copy 3 from the latest; Z 00, a 01, b 10, c 11.
        Check.yields("3 after a copy from 3", "abcabZabZ",
            coded(9).raw("0").run(18).run(18).run(18).run(18).run(18).lengths(2).run(6).lengths(2, 2, 2)
                .simple(5, 15, 16).simple(4, 8)
                .raw("1").num(1, 2).raw("01 10 11").num(0, 1).raw("0 00"));
        Check.fails("2 bytes are left in the block", coded(3).simple(8, 'a').simple(5, 15).simple(4, 0));
        Check.yields("3 bytes are left", "aaaa", coded(4).simple(8, 'a').simple(5, 15).simple(4, 0));
    }

    private static void literalsAreSymbols() {
        Check.says("then the literals, n of them, each a symbol by a literal code:");
        for (int b = 0; b < 256; b++) {
            Check.yields("literal " + b, String.valueOf((char) b),
                coded(1).simple(8, b).simple(5, 8).simple(4, 0));
        }
    }

    /** Code A is . and the byte, code B is #: which of them stands behind the byte? */
    private static void mapAtItsEdges() {
        Check.says("B if MAP is 1 and the byte before it in the text is 97 .. 122, otherwise A");
        for (int b = 0; b < 256; b++) {
            if (b == '.') {
                continue;
            }
            boolean small = b >= 97 && b <= 122;
            String first = b < '.' ? "0" : "1";
            String second = small ? "" : b < '.' ? "1" : "0";
            Check.yields("behind " + b, (char) b + (small ? "#" : "."), new BitsOut().head(true, true, 2).raw("1")
                .simple(8, '.', b).simple(8, '#').simple(5, 16).simple(4, 0).num(0, 2).raw(first + second));
        }
    }

    private static void mapWithoutByteBefore() {
        Check.says("otherwise A (so also where no byte is before it).");
        Check.yields("the first literal of a text", "A",
            new BitsOut().head(true, true, 1).raw("1").simple(8, 'A').simple(8, 'B').simple(5, 8).simple(4, 0));
        Box x = Check.withText("zzz");
        Check.setStream(x, new BitsOut().head(true, true, 1).raw("1")
            .simple(8, 'A').simple(8, 'B').simple(5, 8).simple(4, 0).bytes());
        Check.due("also where a text was there: unpack()", x.unpack(), 1);
        Check.due("also where a text was there: at(0)", x.at(0), 'A');
        Check.due("unpacked again", x.unpack() == 1 ? x.at(0) : -2, 'A');
    }

    private static BitsOut mapped(boolean last, int length) {
        return new BitsOut().head(last, true, length).raw("1").simple(8, 'A').simple(8, 'B');
    }

    private static void mapBehindOtherBytes() {
        Check.says("the byte before it in the text is 97 .. 122,");
        for (String before : new String[] {"a", "z", "`", "{", "A", "\u00e1"}) {
            boolean small = before.equals("a") || before.equals("z");
            Check.yields("the last byte of a raw block: " + before, before + (small ? "B" : "A"),
                new BitsOut().rawBlock(false, before).head(true, true, 1).raw("1")
                    .simple(8, 'A').simple(8, 'B').simple(5, 8).simple(4, 0));
        }
        Check.yields("the last byte of a copy: small", "xyxyB",
            new BitsOut().rawBlock(false, "xy").head(true, true, 3).raw("1")
                .simple(8, 'A').simple(8, 'B').simple(5, 0, 8).simple(4, 7).raw("0 1"));
        Check.yields("the last byte of a copy: a capital", "xYxYA",
            new BitsOut().rawBlock(false, "xY").head(true, true, 3).raw("1")
                .simple(8, 'A').simple(8, 'B').simple(5, 0, 8).simple(4, 7).raw("0 1"));
        Check.yields("the last byte of a word", "thatB",
            mapped(true, 5).simple(5, 2, 8).simple(4, 6).raw("0 1"));
        Check.yields("the blank behind a word", "that A",
            mapped(true, 6).simple(5, 2, 8).simple(4, 10).raw("0").num(0, 3).raw("1"));
        Check.yields("a literal in the block before", "aB", new BitsOut().head(false, true, 1).raw("0")
            .simple(8, 'a').simple(5, 8).simple(4, 0).head(true, true, 1).raw("1")
            .simple(8, 'A').simple(8, 'B').simple(5, 8).simple(4, 0));
    }

    private static void noMap() {
        Check.says("B if MAP is 1 and the byte before it in the text is 97 .. 122, otherwise A");
        Check.yields("MAP 0: A behind a small letter too", "aaza",
            coded(4).simple(8, 'a', 'z').simple(5, 16).simple(4, 0).num(2, 2).raw("0 0 1 0"));
        Check.yields("a block with MAP 1, then one with MAP 0", "aBaa",
            new BitsOut().head(false, true, 2).raw("1").simple(8, 'a').simple(8, 'B').simple(5, 16).simple(4, 0)
                .num(0, 2).head(true, true, 2).raw("0").simple(8, 'a').simple(5, 16).simple(4, 0).num(0, 2));
    }

    private static void lengthBehindLiterals() {
        Check.says("If the block has its length then, the block ends.");
        for (int c = 0; c < 8; c++) {
            Check.yields("c = " + c + ": its copy bits are there, its distance is not", "ba",
                coded(2).simple(8, 'a', 'b').simple(5, 16 + c).simple(4, 4, 10)
                    .num(0, 2).num((1 << COPY_BITS[c]) - 1, COPY_BITS[c]).raw("1 0"));
        }
        Check.yields("the next block begins there", "baXY",
            new BitsOut().head(false, true, 2).raw("0").simple(8, 'a', 'b').simple(5, 16).simple(4, 4, 10)
                .num(0, 2).raw("1 0").rawBlock(true, "XY"));
        Check.says("Otherwise a COPY of m bytes follows: its distance d, then the bytes.");
        Check.yields("one byte of the block is missing: a word of three", "!hat",
            coded(4).simple(8, '!').simple(5, 10).simple(4, 10).num(5, 3));
        Check.fails("one byte of the block is missing: no copy has one byte",
            coded(2).simple(8, '!').simple(5, 8).simple(4, 0));
        Check.yields("two bytes of the block are missing", "!!!",
            coded(3).simple(8, '!').simple(5, 8).simple(4, 0));
    }
}
