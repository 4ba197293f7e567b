/**
 * Packs a short text into a stream of bits and takes it out of a stream again.
 * Every row is made with the object and used again, so that no call makes objects of its own.
 */
public final class RingPacker {
    public static final int FAILS = -1;

    private static final int NONE = -1;
    private static final int TEXT_LIMIT = 96;
    private static final int STREAM_LIMIT = 200;
    private static final int BLOCK_LIMIT = 64;
    private static final int PACKED_BLOCK = 48;

    private static final int LITERALS = 256;
    private static final int COMMANDS = 32;
    private static final int DISTANCES = 14;

    private static final int FULL_SPACE = 64;
    private static final int MOST_BITS = 6;
    private static final int MOST_SIMPLE = 4;
    private static final int RUN_MARK = 7;
    private static final int LEAST_RUN = 3;
    private static final int LONGEST_RUN = 18;

    private static final int[] INSERT_BASE = {0, 1, 2, 6};
    private static final int[] INSERT_BITS = {0, 0, 2, 6};
    private static final int[] COPY_BASE = {2, 3, 4, 5, 6, 10, 26, 3};
    private static final int[] COPY_BITS = {0, 0, 0, 0, 2, 4, 5, 0};
    private static final int[] DISTANCE_BASE = {0, 0, 0, 0, 0, 0, 1, 2, 3, 5, 9, 17, 33, 65};
    private static final int[] DISTANCE_BITS = {0, 0, 0, 0, 0, 0, 0, 0, 1, 2, 3, 4, 5, 6};
    private static final int COPY_AT_LATEST = 7;
    private static final int LAST_PLAIN_COPY = 6;
    private static final int SHORT_COPY = 3;
    private static final int LONGEST_COPY = 57;

    private static final int RING = 4;
    private static final int LATEST_LESS_ONE = 4;
    private static final int LATEST_AND_ONE = 5;
    private static final int FIRST_PLAIN_DISTANCE = 6;

    private static final String WORDS_OF_FOUR = "thatwithfromhave";
    private static final String WORDS_OF_FIVE = "whichtheretheirabout";
    private static final int SHORT_WORD = 4;
    private static final int LONG_WORD = 5;
    private static final int FORMED_WORDS = 16;
    private static final int AS_CAPITAL = 1;
    private static final int WITH_BLANK = 2;
    private static final int WITHOUT_FIRST = 3;
    private static final int BLANK = 32;
    private static final int CAPITAL_STEP = 32;

    private static final int RAW = 0;
    private static final int CODED_MAPPED = 2;

    private final Text text = new Text();
    private final BitStream stream = new BitStream();
    private final Counts counts = new Counts();
    private final Packer packer = new Packer();
    private final Unpacker unpacker = new Unpacker();

    public RingPacker() {
    }

    public boolean put(int b) {
        return text.add(b);
    }

    public void clear() {
        text.makeEmpty();
    }

    public int length() {
        return text.count;
    }

    public int at(int place) {
        return text.get(place);
    }

    public int pack() {
        stream.startWriting();
        packer.start();
        if (text.count == 0) {
            stream.give(1, 1);
            stream.give(1, 1);
        }
        for (int from = 0; from < text.count; from += PACKED_BLOCK) {
            packer.writeBlock(text, stream, from);
        }
        stream.finishWriting();
        counts.become(packer.counts);
        return stream.count;
    }

    public int unpack() {
        if (!unpacker.readAll(stream)) {
            return FAILS;
        }
        text.become(unpacker.draft);
        counts.become(unpacker.counts);
        return text.count;
    }

    public int size() {
        return stream.count;
    }

    public int byteAt(int k) {
        return stream.get(k);
    }

    public boolean poke(int k, int b) {
        return stream.change(k, b);
    }

    public boolean append(int b) {
        return stream.add(b);
    }

    public boolean trim(int n) {
        return stream.keep(n);
    }

    public int coded() {
        return counts.codedBlocks;
    }

    public int copies() {
        return counts.plainCopies;
    }

    public int words() {
        return counts.wordCopies;
    }

    public int symbols() {
        return counts.codeWords;
    }

    private static boolean isByte(int b) {
        return b >= 0 && b <= 255;
    }

    /** The bytes of a text, the one that is shown or one that is not finished yet. */
    private static final class Text {
        private final int[] bytes = new int[TEXT_LIMIT];
        private int count;

        boolean add(int b) {
            if (!isByte(b) || count >= TEXT_LIMIT) {
                return false;
            }
            bytes[count] = b;
            count++;
            return true;
        }

        int get(int place) {
            return place >= 0 && place < count ? bytes[place] : NONE;
        }

        void makeEmpty() {
            count = 0;
        }

        void become(Text other) {
            System.arraycopy(other.bytes, 0, bytes, 0, TEXT_LIMIT);
            count = other.count;
        }

        boolean followsSmallLetter(int place) {
            int before = get(place - 1);
            return before >= 'a' && before <= 'z';
        }

        /** How many bytes from both places on are equal; the first place is before the second. */
        int equalBytes(int first, int second, int most) {
            int limit = Math.min(most, count - second);
            int n = 0;
            while (n < limit && bytes[first + n] == bytes[second + n]) {
                n++;
            }
            return n;
        }
    }

    /** The bytes of the stream, with the place of the bit that is read or written next. */
    private static final class BitStream {
        private final int[] bytes = new int[STREAM_LIMIT];
        private int count;
        private int place;
        private boolean overrun;

        boolean add(int b) {
            if (!isByte(b) || count >= STREAM_LIMIT) {
                return false;
            }
            bytes[count] = b;
            count++;
            return true;
        }

        int get(int k) {
            return k >= 0 && k < count ? bytes[k] : NONE;
        }

        boolean change(int k, int b) {
            if (k < 0 || k >= count || !isByte(b)) {
                return false;
            }
            bytes[k] = b;
            return true;
        }

        boolean keep(int n) {
            if (n < 0 || n > count) {
                return false;
            }
            count = n;
            return true;
        }

        void startReading() {
            place = 0;
            overrun = false;
        }

        /** A number of n bits; behind the end its bits are 0, and the overrun is remembered. */
        int take(int n) {
            int number = 0;
            for (int k = 0; k < n; k++) {
                if (place >= 8 * count) {
                    overrun = true;
                } else {
                    number |= ((bytes[place >> 3] >> (place & 7)) & 1) << k;
                    place++;
                }
            }
            return number;
        }

        boolean takeZerosToByteEnd() {
            int left = -place & 7;
            return take(left) == 0;
        }

        boolean isReadWhole() {
            return !overrun && takeZerosToByteEnd() && place == 8 * count;
        }

        void startWriting() {
            place = 0;
        }

        void goBackTo(int earlier) {
            place = earlier;
        }

        /**
         * Bits beyond the limit are only counted: a way to write a block may be too long for the
         * stream while it is measured, but is never the one that is kept.
         */
        void give(int number, int n) {
            for (int k = 0; k < n; k++) {
                int index = place >> 3;
                int mask = 1 << (place & 7);
                if (index < STREAM_LIMIT) {
                    bytes[index] = ((number >> k) & 1) == 1 ? bytes[index] | mask : bytes[index] & ~mask;
                }
                place++;
            }
        }

        void giveZerosToByteEnd() {
            give(0, -place & 7);
        }

        void finishWriting() {
            giveZerosToByteEnd();
            count = Math.min(place >> 3, STREAM_LIMIT);
        }
    }

    /** What the latest packing or unpacking has met in its coded blocks. */
    private static final class Counts {
        private int codedBlocks;
        private int plainCopies;
        private int wordCopies;
        private int codeWords;

        void reset() {
            codedBlocks = 0;
            plainCopies = 0;
            wordCopies = 0;
            codeWords = 0;
        }

        void become(Counts other) {
            codedBlocks = other.codedBlocks;
            plainCopies = other.plainCopies;
            wordCopies = other.wordCopies;
            codeWords = other.codeWords;
        }

        void addBlock(Plan plan) {
            codedBlocks++;
            plainCopies += plan.copyCount;
            wordCopies += plan.wordCount;
            codeWords += plan.codeWordCount;
        }
    }

    /** The four latest distances, the latest one first. */
    private static final class Ring {
        private final int[] latest = new int[RING];

        void reset() {
            for (int k = 0; k < RING; k++) {
                latest[k] = 1 << k;
            }
        }

        void become(Ring other) {
            System.arraycopy(other.latest, 0, latest, 0, RING);
        }

        /** Also a distance that was in the ring goes in front; its older entry stays until forgotten. */
        void remember(int distance) {
            for (int k = RING - 1; k > 0; k--) {
                latest[k] = latest[k - 1];
            }
            latest[0] = distance;
        }

        boolean isLatest(int distance) {
            return latest[0] == distance;
        }

        int distanceOf(int symbol) {
            if (symbol == LATEST_LESS_ONE) {
                return latest[0] - 1;
            }
            if (symbol == LATEST_AND_ONE) {
                return latest[0] + 1;
            }
            return symbol >= 0 && symbol < RING ? latest[symbol] : 0;
        }

        int symbolOf(int distance) {
            for (int symbol = 0; symbol < FIRST_PLAIN_DISTANCE; symbol++) {
                if (distanceOf(symbol) == distance) {
                    return symbol;
                }
            }
            return plainSymbolOf(distance);
        }

        static int plainSymbolOf(int distance) {
            int symbol = FIRST_PLAIN_DISTANCE;
            while (symbol + 1 < DISTANCES && DISTANCE_BASE[symbol + 1] <= distance) {
                symbol++;
            }
            return symbol;
        }
    }

    /** The words known beforehand: x has the word's number in its two lowest bits, its form above. */
    private static final class Words {
        static int yieldOf(int m, int x) {
            int form = x >> 2;
            if (form == WITH_BLANK) {
                return m + 1;
            }
            return form == WITHOUT_FIRST ? m - 1 : m;
        }

        static int byteOf(int m, int x, int k) {
            int form = x >> 2;
            int place = form == WITHOUT_FIRST ? k + 1 : k;
            if (place >= m) {
                return BLANK;
            }
            String row = m == SHORT_WORD ? WORDS_OF_FOUR : WORDS_OF_FIVE;
            int letter = row.charAt((x & 3) * m + place);
            return form == AS_CAPITAL && place == 0 ? letter - CAPITAL_STEP : letter;
        }

        static boolean standsIn(Text text, int from, int m, int x) {
            int n = yieldOf(m, x);
            for (int k = 0; k < n; k++) {
                if (text.get(from + k) != byteOf(m, x, k)) {
                    return false;
                }
            }
            return true;
        }
    }

    /** A prefix code over the symbols 0 .. symbolCount - 1, read from a stream or made from counts. */
    private static final class Code {
        private final int symbolCount;
        private final int numberBits;
        private final int[] times;
        private final int[] bits;
        private final int[] codeWord;
        private final int[] listed = new int[FULL_SPACE];
        private int listedCount;

        Code(int symbolCount, int numberBits) {
            this.symbolCount = symbolCount;
            this.numberBits = numberBits;
            times = new int[symbolCount];
            bits = new int[symbolCount];
            codeWord = new int[symbolCount];
        }

        boolean readDescription(BitStream in) {
            forgetListed();
            boolean simple = in.take(1) == 1;
            boolean sound = simple ? readSimple(in) : readBitNumbers(in);
            if (!sound || in.overrun) {
                return false;
            }
            sortListed();
            giveCodeWords();
            return true;
        }

        private boolean readSimple(BitStream in) {
            int kinds = in.take(2) + 1;
            for (int k = 0; k < kinds; k++) {
                int symbol = in.take(numberBits);
                if (symbol >= symbolCount || isListed(symbol)) {
                    return false;
                }
                list(symbol, simpleBits(kinds, k == 0));
            }
            return true;
        }

        private boolean readBitNumbers(BitStream in) {
            int space = FULL_SPACE;
            int symbol = 0;
            while (symbol < symbolCount && space > 0) {
                int number = in.take(3);
                if (number == RUN_MARK) {
                    symbol += in.take(4) + LEAST_RUN;
                    continue;
                }
                if (number > 0) {
                    space -= FULL_SPACE >> number;
                    if (space < 0) {
                        return false;
                    }
                    list(symbol, number);
                }
                symbol++;
            }
            return space == 0;
        }

        int readWord(BitStream in) {
            if (listedCount == 1) {
                return listed[0];
            }
            int word = 0;
            int k = 0;
            for (int b = 1; b <= MOST_BITS; b++) {
                word = 2 * word + in.take(1);
                for (; k < listedCount && bits[listed[k]] == b; k++) {
                    if (codeWord[listed[k]] == word) {
                        return listed[k];
                    }
                }
            }
            return NONE;
        }

        void forgetTimes() {
            for (int symbol = 0; symbol < symbolCount; symbol++) {
                times[symbol] = 0;
            }
        }

        void countOnce(int symbol) {
            if (symbol >= 0 && symbol < symbolCount) {
                times[symbol]++;
            }
        }

        void makeFromTimes() {
            forgetListed();
            for (int symbol = 0; symbol < symbolCount; symbol++) {
                if (times[symbol] > 0) {
                    list(symbol, 0);
                }
            }
            if (listedCount == 0) {
                list(0, 0);
            }
            if (listedCount <= MOST_SIMPLE) {
                chooseSimpleBits();
            } else {
                spreadSpace(chooseFirstBits());
            }
            sortListed();
            giveCodeWords();
        }

        private void chooseSimpleBits() {
            int front = 0;
            for (int k = 1; k < listedCount; k++) {
                if (times[listed[k]] > times[listed[front]]) {
                    front = k;
                }
            }
            for (int k = 0; k < listedCount; k++) {
                bits[listed[k]] = simpleBits(listedCount, k == front);
            }
        }

        /** Answers the space that is left. */
        private int chooseFirstBits() {
            int total = 0;
            for (int k = 0; k < listedCount; k++) {
                total += times[listed[k]];
            }
            int space = FULL_SPACE;
            for (int k = 0; k < listedCount; k++) {
                int b = 1;
                while (b < MOST_BITS && times[listed[k]] << b < total) {
                    b++;
                }
                bits[listed[k]] = b;
                space -= FULL_SPACE >> b;
            }
            return space;
        }

        /** A round always shortens the longest word at least, so the rounds are fewer than the bound. */
        private void spreadSpace(int left) {
            int space = left;
            for (int round = 0; round < MOST_BITS * FULL_SPACE && space > 0; round++) {
                for (int k = 0; k < listedCount; k++) {
                    int b = bits[listed[k]];
                    int more = FULL_SPACE >> b;
                    if (b > 1 && more <= space) {
                        bits[listed[k]] = b - 1;
                        space -= more;
                    }
                }
            }
        }

        /** A simple description lists the symbols in the order of their code words. */
        void writeDescription(BitStream out) {
            if (listedCount > MOST_SIMPLE) {
                out.give(0, 1);
                writeBitNumbers(out);
                return;
            }
            out.give(1, 1);
            out.give(listedCount - 1, 2);
            for (int k = 0; k < listedCount; k++) {
                out.give(listed[k], numberBits);
            }
        }

        private void writeBitNumbers(BitStream out) {
            int written = 0;
            int missing = 0;
            for (int symbol = 0; symbol < symbolCount && written < listedCount; symbol++) {
                if (bits[symbol] == 0) {
                    missing++;
                } else {
                    writeMissing(out, missing);
                    missing = 0;
                    out.give(bits[symbol], 3);
                    written++;
                }
            }
        }

        private static void writeMissing(BitStream out, int missing) {
            int left = missing;
            while (left >= LEAST_RUN) {
                int run = Math.min(left, LONGEST_RUN);
                out.give(RUN_MARK, 3);
                out.give(run - LEAST_RUN, 4);
                left -= run;
            }
            out.give(0, 3 * left);
        }

        void writeWord(BitStream out, int symbol) {
            if (symbol < 0 || symbol >= symbolCount) {
                return;
            }
            for (int b = bits[symbol] - 1; b >= 0; b--) {
                out.give(codeWord[symbol] >> b, 1);
            }
        }

        private static int simpleBits(int kinds, boolean first) {
            if (kinds == 3) {
                return first ? 1 : 2;
            }
            return kinds >> 1;
        }

        private void forgetListed() {
            for (int k = 0; k < listedCount; k++) {
                bits[listed[k]] = 0;
            }
            listedCount = 0;
        }

        private void list(int symbol, int b) {
            if (listedCount < FULL_SPACE) {
                listed[listedCount] = symbol;
                listedCount++;
                bits[symbol] = b;
            }
        }

        private boolean isListed(int symbol) {
            for (int k = 0; k < listedCount; k++) {
                if (listed[k] == symbol) {
                    return true;
                }
            }
            return false;
        }

        /** By their bits, of as many bits by their numbers: the order of the code words. */
        private void sortListed() {
            for (int from = 1; from < listedCount; from++) {
                int symbol = listed[from];
                int rank = bits[symbol] * LITERALS + symbol;
                int k = from;
                while (k > 0 && bits[listed[k - 1]] * LITERALS + listed[k - 1] > rank) {
                    listed[k] = listed[k - 1];
                    k--;
                }
                listed[k] = symbol;
            }
        }

        private void giveCodeWords() {
            int word = 0;
            for (int k = 0; k < listedCount; k++) {
                if (k > 0) {
                    word = (word + 1) << (bits[listed[k]] - bits[listed[k - 1]]);
                }
                codeWord[listed[k]] = word;
            }
        }
    }

    /** The codes of a coded block. */
    private static final class Codes {
        private final Code literalA = new Code(LITERALS, 8);
        private final Code literalB = new Code(LITERALS, 8);
        private final Code command = new Code(COMMANDS, 5);
        private final Code distance = new Code(DISTANCES, 4);

        Code literalAt(Text text, int place, boolean map) {
            return map && text.followsSmallLetter(place) ? literalB : literalA;
        }

        boolean readDescriptions(BitStream in, boolean map) {
            return literalA.readDescription(in)
                && (!map || literalB.readDescription(in))
                && command.readDescription(in)
                && distance.readDescription(in);
        }

        void forgetTimes() {
            literalA.forgetTimes();
            literalB.forgetTimes();
            command.forgetTimes();
            distance.forgetTimes();
        }

        void makeFromTimes() {
            literalA.makeFromTimes();
            literalB.makeFromTimes();
            command.makeFromTimes();
            distance.makeFromTimes();
        }
    }

    /** The longest copy and the longest word that could stand at a place of the text. */
    private static final class Finder {
        private int copyBytes;
        private int copyDistance;
        private int wordBytes;
        private int wordLength;
        private int wordIndex;

        /** Goes from the least distance up, so that of equally long copies the nearest one stays. */
        void findCopy(Text text, int place, int end) {
            int most = Math.min(LONGEST_COPY, end - place);
            copyBytes = 0;
            copyDistance = 0;
            for (int d = 1; d <= place && copyBytes < most; d++) {
                int n = text.equalBytes(place - d, place, most);
                if (n > copyBytes) {
                    copyBytes = n;
                    copyDistance = d;
                }
            }
        }

        /** Goes from m = 4 and x = 0 up, so that of equally long words the first one stays. */
        void findWord(Text text, int place, int end) {
            wordBytes = 0;
            wordLength = 0;
            wordIndex = 0;
            for (int m = SHORT_WORD; m <= LONG_WORD; m++) {
                for (int x = 0; x < FORMED_WORDS; x++) {
                    int n = Words.yieldOf(m, x);
                    if (n > wordBytes && n <= end - place && Words.standsIn(text, place, m, x)) {
                        wordBytes = n;
                        wordLength = m;
                        wordIndex = x;
                    }
                }
            }
        }

        boolean isWord() {
            return wordBytes >= SHORT_WORD && wordBytes > copyBytes;
        }

        boolean isCopy() {
            return copyBytes >= SHORT_COPY;
        }
    }

    /** A block of the text as commands, before it is known in which way it is written. */
    private static final class Plan {
        private final Finder finder = new Finder();
        private final Ring ring = new Ring();
        private final int[] literalFrom = new int[PACKED_BLOCK];
        private final int[] literalCount = new int[PACKED_BLOCK];
        private final int[] copySymbol = new int[PACKED_BLOCK];
        private final int[] copyLength = new int[PACKED_BLOCK];
        private final int[] distanceSymbol = new int[PACKED_BLOCK];
        private final int[] distance = new int[PACKED_BLOCK];
        private int commandCount;
        private int copyCount;
        private int wordCount;
        private int codeWordCount;

        void parse(Text text, int from, int end, Ring before) {
            ring.become(before);
            commandCount = 0;
            copyCount = 0;
            wordCount = 0;
            codeWordCount = 0;
            int literalsFrom = from;
            int place = from;
            for (int turn = 0; turn < PACKED_BLOCK && place < end; turn++) {
                finder.findCopy(text, place, end);
                finder.findWord(text, place, end);
                if (finder.isWord()) {
                    addWord(literalsFrom, place);
                    place += finder.wordBytes;
                    literalsFrom = place;
                } else if (finder.isCopy()) {
                    addCopy(literalsFrom, place);
                    place += finder.copyBytes;
                    literalsFrom = place;
                } else {
                    place++;
                }
            }
            if (literalsFrom < end) {
                addCommand(literalsFrom, end, 0, COPY_BASE[0], NONE, 0);
            }
        }

        private void addWord(int literalsFrom, int place) {
            int m = finder.wordLength;
            int d = place + 1 + finder.wordIndex;
            addCommand(literalsFrom, place, copySymbolOf(m), m, Ring.plainSymbolOf(d), d);
            wordCount++;
        }

        private void addCopy(int literalsFrom, int place) {
            int m = finder.copyBytes;
            int d = finder.copyDistance;
            copyCount++;
            if (m == SHORT_COPY && ring.isLatest(d)) {
                addCommand(literalsFrom, place, COPY_AT_LATEST, m, NONE, d);
                return;
            }
            int symbol = ring.symbolOf(d);
            addCommand(literalsFrom, place, copySymbolOf(m), m, symbol, d);
            if (symbol != 0) {
                ring.remember(d);
            }
        }

        private static int copySymbolOf(int m) {
            int c = 0;
            while (c < LAST_PLAIN_COPY && COPY_BASE[c + 1] <= m) {
                c++;
            }
            return c;
        }

        private void addCommand(int literalsFrom, int literalsEnd, int c, int m, int symbol, int d) {
            if (commandCount >= PACKED_BLOCK) {
                return;
            }
            literalFrom[commandCount] = literalsFrom;
            literalCount[commandCount] = literalsEnd - literalsFrom;
            copySymbol[commandCount] = c;
            copyLength[commandCount] = m;
            distanceSymbol[commandCount] = symbol;
            distance[commandCount] = d;
            commandCount++;
            codeWordCount += 1 + literalsEnd - literalsFrom + (symbol == NONE ? 0 : 1);
        }

        int insertSymbolOf(int k) {
            int i = 0;
            while (i + 1 < INSERT_BASE.length && INSERT_BASE[i + 1] <= literalCount[k]) {
                i++;
            }
            return i;
        }

        int commandSymbolOf(int k) {
            return 8 * insertSymbolOf(k) + copySymbol[k];
        }
    }

    /** Writes the blocks of a text one after the other. */
    private static final class Packer {
        private final Counts counts = new Counts();
        private final Ring ring = new Ring();
        private final Codes codes = new Codes();
        private final Plan plan = new Plan();

        void start() {
            counts.reset();
            ring.reset();
        }

        void writeBlock(Text text, BitStream out, int from) {
            int end = Math.min(from + PACKED_BLOCK, text.count);
            plan.parse(text, from, end, ring);
            int start = out.place;
            int best = RAW;
            int bestEnd = 0;
            for (int way = RAW; way <= CODED_MAPPED; way++) {
                out.goBackTo(start);
                writeInWay(way, text, out, from, end);
                if (way == RAW || out.place < bestEnd) {
                    best = way;
                    bestEnd = out.place;
                }
            }
            out.goBackTo(start);
            writeInWay(best, text, out, from, end);
            if (best != RAW) {
                ring.become(plan.ring);
                counts.addBlock(plan);
            }
        }

        private void writeInWay(int way, Text text, BitStream out, int from, int end) {
            boolean last = end == text.count;
            out.give(last ? 1 : 0, last ? 2 : 1);
            out.give(way == RAW ? 0 : 1, 1);
            out.give(end - from - 1, 6);
            if (way == RAW) {
                writeRaw(text, out, from, end);
                return;
            }
            boolean map = way == CODED_MAPPED;
            countSymbols(text, map);
            codes.makeFromTimes();
            out.give(map ? 1 : 0, 1);
            codes.literalA.writeDescription(out);
            if (map) {
                codes.literalB.writeDescription(out);
            }
            codes.command.writeDescription(out);
            codes.distance.writeDescription(out);
            for (int k = 0; k < plan.commandCount; k++) {
                writeCommand(text, out, map, k);
            }
        }

        private void writeRaw(Text text, BitStream out, int from, int end) {
            out.giveZerosToByteEnd();
            for (int place = from; place < end; place++) {
                out.give(text.get(place), 8);
            }
        }

        private void countSymbols(Text text, boolean map) {
            codes.forgetTimes();
            for (int k = 0; k < plan.commandCount; k++) {
                codes.command.countOnce(plan.commandSymbolOf(k));
                codes.distance.countOnce(plan.distanceSymbol[k]);
                for (int n = 0; n < plan.literalCount[k]; n++) {
                    int place = plan.literalFrom[k] + n;
                    codes.literalAt(text, place, map).countOnce(text.get(place));
                }
            }
        }

        private void writeCommand(Text text, BitStream out, boolean map, int k) {
            int i = plan.insertSymbolOf(k);
            int c = plan.copySymbol[k];
            codes.command.writeWord(out, plan.commandSymbolOf(k));
            out.give(plan.literalCount[k] - INSERT_BASE[i], INSERT_BITS[i]);
            out.give(plan.copyLength[k] - COPY_BASE[c], COPY_BITS[c]);
            for (int n = 0; n < plan.literalCount[k]; n++) {
                int place = plan.literalFrom[k] + n;
                codes.literalAt(text, place, map).writeWord(out, text.get(place));
            }
            int symbol = plan.distanceSymbol[k];
            if (symbol != NONE) {
                codes.distance.writeWord(out, symbol);
                out.give(plan.distance[k] - DISTANCE_BASE[symbol], DISTANCE_BITS[symbol]);
            }
        }
    }

    /** Reads a whole stream into a draft, so that a stream that fails changes nothing. */
    private static final class Unpacker {
        private final Text draft = new Text();
        private final Counts counts = new Counts();
        private final Ring ring = new Ring();
        private final Codes codes = new Codes();

        boolean readAll(BitStream in) {
            draft.makeEmpty();
            counts.reset();
            ring.reset();
            in.startReading();
            boolean last = false;
            // Each block yields a byte at least, so a block more than the text's limit never comes.
            for (int block = 0; block <= TEXT_LIMIT && !last; block++) {
                last = in.take(1) == 1;
                if (last && in.take(1) == 1) {
                    break;
                }
                boolean isCoded = in.take(1) == 1;
                int end = draft.count + in.take(6) + 1;
                if (in.overrun || end > TEXT_LIMIT) {
                    return false;
                }
                boolean sound = isCoded ? readCoded(in, end) : readRaw(in, end);
                if (!sound) {
                    return false;
                }
            }
            return last && in.isReadWhole();
        }

        private boolean readRaw(BitStream in, int end) {
            if (!in.takeZerosToByteEnd()) {
                return false;
            }
            for (int place = draft.count; place < end; place++) {
                draft.add(in.take(8));
            }
            return !in.overrun;
        }

        private boolean readCoded(BitStream in, int end) {
            boolean map = in.take(1) == 1;
            if (!codes.readDescriptions(in, map)) {
                return false;
            }
            counts.codedBlocks++;
            // Each command yields a byte at least, or fails.
            for (int turn = 0; turn < BLOCK_LIMIT && draft.count < end; turn++) {
                if (!readCommand(in, map, end)) {
                    return false;
                }
            }
            return draft.count == end;
        }

        private boolean readCommand(BitStream in, boolean map, int end) {
            int symbol = codes.command.readWord(in);
            if (symbol == NONE) {
                return false;
            }
            counts.codeWords++;
            int i = symbol >> 3;
            int c = symbol & 7;
            int n = INSERT_BASE[i] + in.take(INSERT_BITS[i]);
            int m = COPY_BASE[c] + in.take(COPY_BITS[c]);
            if (n > end - draft.count) {
                return false;
            }
            for (int k = 0; k < n; k++) {
                draft.add(codes.literalAt(draft, draft.count, map).readWord(in));
                counts.codeWords++;
            }
            if (in.overrun || draft.count == end) {
                return !in.overrun;
            }
            int d = readDistance(in, c);
            if (in.overrun || d < 1) {
                return false;
            }
            return d > draft.count ? yieldWord(m, d - draft.count - 1, end) : yieldCopy(m, d, end);
        }

        private int readDistance(BitStream in, int c) {
            if (c == COPY_AT_LATEST) {
                return ring.distanceOf(0);
            }
            int symbol = codes.distance.readWord(in);
            counts.codeWords++;
            int d = symbol < FIRST_PLAIN_DISTANCE
                ? ring.distanceOf(symbol)
                : DISTANCE_BASE[symbol] + in.take(DISTANCE_BITS[symbol]);
            if (symbol != 0 && d <= draft.count) {
                ring.remember(d);
            }
            return d;
        }

        private boolean yieldCopy(int m, int d, int end) {
            if (m > end - draft.count) {
                return false;
            }
            for (int k = 0; k < m; k++) {
                draft.add(draft.get(draft.count - d));
            }
            counts.plainCopies++;
            return true;
        }

        private boolean yieldWord(int m, int x, int end) {
            if (m != SHORT_WORD && m != LONG_WORD || x >= FORMED_WORDS) {
                return false;
            }
            int n = Words.yieldOf(m, x);
            if (n > end - draft.count) {
                return false;
            }
            for (int k = 0; k < n; k++) {
                draft.add(Words.byteOf(m, x, k));
            }
            counts.wordCopies++;
            return true;
        }
    }
}
