import java.util.Arrays;

/** The Terms TEXT, STREAM and BLOCK, by streams that are unpacked. */
public final class BlockTest {
    private static final String LONG = "0123456789ABCDEFGHIJKLMNOPQRSTUVWXYZ.,;:+-*/=<>()[]{}!?abcdefghi"
        + "jklmnopqrstuvwxyz&%#@0123456789ABCDE";

    public static void main(String[] args) {
        lowestBitFirst();
        lastAndEmpty();
        emptyBehindBlocks();
        lengths();
        bitsBeforeRawBytes();
        noByteUnderWay();
        rawBytes();
        lastBlockEndsTheStream();
        bitsLeftOver();
        byteBehindTheEnd();
        atMost96Bytes();
        blocksYieldPieceByPiece();
        Check.finish();
    }

    private static void lowestBitFirst() {
        Check.says("Its BITS are taken from the lowest bit of byte 0 up,");
        yieldsBytes("LAST 1, EMPTY 1", "", 0b11);
        Check.fails("LAST and EMPTY as the highest bits", new int[] {0b11000000});
        yieldsBytes("LAST 1, EMPTY 0, CODED 0", "A", 0b001, 0, 'A');
        Check.says("A NUMBER of n bits has its lowest bit first.");
        yieldsBytes("length - 1 is 1", "AB", 0b00001_001, 0, 'A', 'B');
        yieldsBytes("length - 1 is 2", "ABC", 0b00010_001, 0, 'A', 'B', 'C');
        Check.says("then from the lowest bit of byte 1, and so on.");
        int[] bytes = new int[35];
        bytes[0] = 0b00000_001;
        bytes[1] = 1;
        for (int k = 0; k < 33; k++) {
            bytes[2 + k] = LONG.charAt(k);
        }
        yieldsBytes("length - 1 is 32, its highest bit in byte 1", LONG.substring(0, 33), bytes);
    }

    private static void yieldsBytes(String name, String want, int... stream) {
        Box x = Check.withStream(stream);
        Check.due(name + ": unpack()", x.unpack(), want.length());
        Check.due(name + ": text", Check.textOf(x), Check.bytes(want));
        Check.due(name + ": stream stays", Check.streamOf(x), stream);
    }

    private static void lastAndEmpty() {
        Check.says("BLOCK: bit LAST; if it is 1, bit EMPTY: if that is 1 too, the stream ends here.");
        Check.yields("LAST 1, EMPTY 1", "", new BitsOut().raw("1 1"));
        Check.yields("LAST 1, EMPTY 0", "a", new BitsOut().raw("1 0 0 000000").align().num('a', 8));
        Check.yields("LAST 0 has no bit EMPTY: CODED stands there", "a",
            new BitsOut().raw("0 1 000000 0").simple(8, 'a').simple(5, 8).simple(4, 0).raw("1 1"));
        Check.yields("LAST 0 has no bit EMPTY: raw", "ab",
            new BitsOut().raw("0 0 000000").num('a', 8).raw("1 0 0 000000").align().num('b', 8));
        Check.fails("LAST 1 and nothing behind it but zeros", new int[] {1});
        Check.fails("LAST 0 and no last block", new BitsOut().rawBlock(false, "abc"));
        Check.fails("LAST 0, coded, and no last block", new BitsOut().literalsOfOneBit(false, 7));
        Check.fails("no bit at all", new int[0]);
    }

    private static void emptyBehindBlocks() {
        Check.says("if that is 1 too, the stream ends here.");
        Check.yields("behind a raw block", "abc", new BitsOut().rawBlock(false, "abc").raw("11"));
        for (int n = 6; n < 14; n++) {
            BitsOut bits = new BitsOut().literalsOfOneBit(false, n).raw("11");
            Check.yields("behind a coded block of " + n, "p".repeat(n), bits);
            for (int bit = bits.length(); bit % 8 != 0; bit++) {
                Check.fails("bit " + bit + " left over behind it", bits.bytesTurned(bit));
            }
            Check.fails("a byte behind it", new BitsOut().literalsOfOneBit(false, n).raw("11").align().num(0, 8));
        }
        Check.yields("behind two blocks of the text's 96 bytes", LONG.substring(0, 96),
            new BitsOut().rawBlock(false, LONG.substring(0, 64)).rawBlock(false, LONG.substring(64, 96))
                .raw("11"));
    }

    private static void lengths() {
        Check.says("then length - 1, a number of 6 bits: the block yields so many bytes (1 .. 64).");
        for (int n : new int[] {1, 2, 3, 31, 32, 33, 48, 49, 63, 64}) {
            String text = LONG.substring(0, n);
            Check.yields("raw, last, " + n, text, new BitsOut().rawBlock(true, text));
            Check.yields("raw, " + n, text, new BitsOut().rawBlock(false, text).raw("11"));
            Check.fails("raw, a byte too few of " + n,
                Arrays.copyOf(new BitsOut().rawBlock(true, text).bytes(), n + 1));
            Check.fails("raw, a byte too many of " + n, new BitsOut().rawBlock(true, text).num(0, 8));
        }
        for (int n : new int[] {6, 7, 47, 48, 49, 63, 64}) {
            Check.yields("coded, last, " + n, "p".repeat(n), new BitsOut().literalsOfOneBit(true, n));
            Check.yields("coded, " + n, "p".repeat(n), new BitsOut().literalsOfOneBit(false, n).raw("11"));
        }
        Check.yields("coded, last, 1", "q",
            new BitsOut().head(true, true, 1).raw("0").simple(8, 'q').simple(5, 8).simple(4, 0));
    }

    private static void bitsBeforeRawBytes() {
        Check.says("Not CODED: the bits up to the end of the byte under way, if one is, must be 0;");
        BitsOut first = new BitsOut().rawBlock(true, "a");
        for (int bit = 9; bit < 16; bit++) {
            Check.fails("bit " + bit + " before the raw bytes", first.bytesTurned(bit));
        }
        Check.yields("all of them 0", "a", first);
        Check.fails("a bit before raw bytes that are not there", new int[] {1, 2});
        Check.fails("a bit before raw bytes of which none is there, behind a block",
            new BitsOut().rawBlock(false, "ab").head(true, false, 1).raw("1"));
        for (int n = 6; n < 14; n++) {
            int end = new BitsOut().literalsOfOneBit(false, n).head(true, false, 2).length();
            BitsOut bits = new BitsOut().literalsOfOneBit(false, n).rawBlock(true, "\u00ff\u0000");
            Check.yields("raw behind a coded block of " + n, "p".repeat(n) + "\u00ff\u0000", bits);
            for (int bit = end; bit % 8 != 0; bit++) {
                Check.fails("bit " + bit + " behind a coded block of " + n, bits.bytesTurned(bit));
            }
        }
    }

    private static void noByteUnderWay() {
        Check.says("the bits up to the end of the byte under way, if one is, must be 0; "
            + "then the bytes of the block follow.");
        Check.yields("the head of a block that is not the last is one byte", "\u00ff",
            new BitsOut().raw("0 0 000000").num(255, 8).raw("11"));
        Check.yields("also in the second block", "\u00ff\u00fe",
            new BitsOut().raw("0 0 000000").num(255, 8).raw("0 0 000000").num(254, 8).raw("11"));
        BitsOut bits = new BitsOut().literalsOfOneBit(false, 7);
        Check.due("a coded block that ends with a byte", bits.length() % 8, 0);
        Check.yields("raw behind it", "ppppppp\u00ff", bits.rawBlock(false, "\u00ff").raw("11"));
    }

    private static void rawBytes() {
        Check.says("then the bytes of the block follow.");
        for (int first = 0; first < 256; first += 64) {
            StringBuilder text = new StringBuilder();
            for (int k = 0; k < 64; k++) {
                text.append((char) (first + k));
            }
            Check.yields("from " + first, text.toString(), new BitsOut().rawBlock(true, text.toString()));
        }
    }

    private static void lastBlockEndsTheStream() {
        Check.says("After a block with LAST the stream ends.");
        Check.fails("a block behind a raw last one",
            new BitsOut().rawBlock(true, "a").rawBlock(true, "b"));
        Check.fails("an empty end behind a raw last one", new BitsOut().rawBlock(true, "a").raw("11"));
        for (int n = 6; n < 14; n++) {
            Check.fails("an empty end behind a coded last one of " + n,
                new BitsOut().literalsOfOneBit(true, n).raw("11"));
        }
        Check.fails("an empty end behind an empty end", new BitsOut().raw("11 11"));
        Check.fails("a block behind an empty end", new BitsOut().raw("11").align().rawBlock(true, "a"));
    }

    private static void bitsLeftOver() {
        Check.says("Where it ends, the bits left over in the byte under way must be 0,");
        for (int bit = 2; bit < 8; bit++) {
            Check.fails("bit " + bit + " left over behind the empty end", new int[] {3 | 1 << bit});
        }
        Check.yields("none of them", "", new BitsOut().raw("11 000000"));
        for (int n = 6; n < 14; n++) {
            BitsOut bits = new BitsOut().literalsOfOneBit(true, n);
            Check.yields("none behind a coded block of " + n, "p".repeat(n), bits);
            for (int bit = bits.length(); bit % 8 != 0; bit++) {
                Check.fails("bit " + bit + " left over behind a coded block", bits.bytesTurned(bit));
            }
        }
    }

    private static void byteBehindTheEnd() {
        Check.says("and no byte may follow.");
        for (int b : new int[] {0, 1, 3, 255}) {
            Check.fails("byte " + b + " behind the empty end", new BitsOut().raw("11").align().num(b, 8));
            Check.fails("byte " + b + " behind a raw block", new BitsOut().rawBlock(true, "abc").num(b, 8));
            for (int n = 6; n < 14; n++) {
                Check.fails("byte " + b + " behind a coded block of " + n,
                    new BitsOut().literalsOfOneBit(true, n).align().num(b, 8));
            }
        }
    }

    private static void atMost96Bytes() {
        Check.says("TEXT: at most 96 bytes 0 .. 255, at places 0, 1, ...");
        Check.yields("96 bytes", LONG.substring(0, 96),
            new BitsOut().rawBlock(false, LONG.substring(0, 64)).rawBlock(true, LONG.substring(64, 96)));
        Check.fails("97 bytes",
            new BitsOut().rawBlock(false, LONG.substring(0, 64)).rawBlock(true, LONG.substring(64, 97)));
        BitsOut singles = new BitsOut();
        for (int k = 0; k < 96; k++) {
            singles.rawBlock(false, LONG.substring(k, k + 1));
        }
        Check.yields("96 blocks of one byte, then the empty end", LONG.substring(0, 96), singles.raw("11"));
        BitsOut lastOfOne = new BitsOut();
        for (int k = 0; k < 95; k++) {
            lastOfOne.rawBlock(false, LONG.substring(k, k + 1));
        }
        Check.yields("95 of them, then a last one", LONG.substring(0, 96),
            lastOfOne.rawBlock(true, LONG.substring(95, 96)));
    }

    private static void blocksYieldPieceByPiece() {
        Check.says("A stream is a row of blocks; they yield the text piece by piece;");
        Check.yields("raw, coded, raw, coded", "abpppppppcdpppppp",
            new BitsOut().rawBlock(false, "ab").literalsOfOneBit(false, 7).rawBlock(false, "cd")
                .literalsOfOneBit(true, 6));
        Check.says("THERE is how many bytes of text all blocks and the present one have yielded so far.");
        BitsOut behindTwo = new BitsOut().rawBlock(false, "XY").head(true, true, 3).raw("0").simple(8, 'z')
            .simple(5, 8).simple(4, 8).num(0, 1);
        Check.yields("distance 3 reaches over the present block into the one before", "XYzXY", behindTwo);
        BitsOut behindOne = new BitsOut().rawBlock(false, "X").head(true, true, 5).raw("0").simple(8, 'z')
            .simple(5, 10).simple(4, 8).num(0, 1);
        Check.yields("distance 3 where two are there is a word", "Xzthat", behindOne);
    }
}
