/** Writes a stream by hand, field by field. */
final class BitsOut {
    private final StringBuilder bits = new StringBuilder();

    /** A number of n bits, its lowest bit first. */
    BitsOut num(int number, int n) {
        for (int k = 0; k < n; k++) {
            bits.append(k < 31 ? (number >> k) & 1 : 0);
        }
        return this;
    }

    /** Bits as they stand in the stream; blanks are only for the eye. */
    BitsOut raw(String row) {
        bits.append(row.replace(" ", ""));
        return this;
    }

    BitsOut align() {
        while (bits.length() % 8 != 0) {
            bits.append('0');
        }
        return this;
    }

    /** LAST (with EMPTY 0 behind it), CODED and the length. */
    BitsOut head(boolean last, boolean coded, int length) {
        return raw(last ? "10" : "0").raw(coded ? "1" : "0").num(length - 1, 6);
    }

    BitsOut rawBlock(boolean last, String text) {
        head(last, false, text.length()).align();
        for (char c : text.toCharArray()) {
            num(c, 8);
        }
        return this;
    }

    /** A simple code, its symbols in the order given, each a number of n bits. */
    BitsOut simple(int n, int... symbols) {
        raw("1").num(symbols.length - 1, 2);
        for (int symbol : symbols) {
            num(symbol, n);
        }
        return this;
    }

    /** A 7 and how many symbols do not occur. */
    BitsOut run(int symbols) {
        return num(7, 3).num(symbols - 3, 4);
    }

    /** The numbers of bits of as many symbols. */
    BitsOut lengths(int... numbers) {
        for (int number : numbers) {
            num(number, 3);
        }
        return this;
    }

    /** A coded block of n literals p (6 .. 64), each of one bit, to shift what follows as far as one likes. */
    BitsOut literalsOfOneBit(boolean last, int n) {
        return head(last, true, n).raw("0").simple(8, 'p', 'q').simple(5, 24).simple(4, 0)
            .num(n - 6, 6).num(0, n);
    }

    int length() {
        return bits.length();
    }

    int[] bytes() {
        int[] bytes = new int[(bits.length() + 7) / 8];
        for (int k = 0; k < bits.length(); k++) {
            bytes[k / 8] |= (bits.charAt(k) - '0') << (k % 8);
        }
        return bytes;
    }

    /** The bytes with one bit turned over. */
    int[] bytesTurned(int bit) {
        int[] bytes = bytes();
        bytes[bit / 8] ^= 1 << (bit % 8);
        return bytes;
    }
}
