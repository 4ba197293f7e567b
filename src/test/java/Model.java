import java.util.ArrayList;
import java.util.Collections;
import java.util.HashMap;
import java.util.HashSet;
import java.util.List;
import java.util.Map;
import java.util.Set;
import java.util.TreeMap;

/**
 * The document's Terms a second time, as plainly as Java's library allows: bits are characters,
 * code words are texts, failing is an exception. The tests hold RingPacker against it.
 */
final class Model {
    static final class Failure extends RuntimeException {
        private static final long serialVersionUID = 1L;
    }

    /** A stream or a text with the four counts: coded, copies, words, symbols. */
    static final class Result {
        int[] bytes;
        int[] counts;
        List<String> commands;
        List<String> codes;
        /** Of pack: after how many bits each block would end in each of the three ways. */
        List<int[]> ends;
    }

    private static final String[][] WORDS = {
        {"that", "with", "from", "have"}, {"which", "there", "their", "about"}};
    /** Of the three ways how often each was chosen by pack, to see that the tests reach all. */
    static final int[] WAYS = new int[3];
    /** How often a later way ended just where the chosen one did: the second, the third. */
    static final int[] TIES = new int[3];

    private Model() {
    }

    static String word(int m, int x) {
        String w = WORDS[m - 4][x % 4];
        switch (x / 4) {
            case 0:
                return w;
            case 1:
                return Character.toUpperCase(w.charAt(0)) + w.substring(1);
            case 2:
                return w + " ";
            default:
                return w.substring(1);
        }
    }

    static String number(int value, int n) {
        StringBuilder row = new StringBuilder();
        for (int k = 0; k < n; k++) {
            row.append((value >> k) & 1);
        }
        return row.toString();
    }

    static boolean small(List<Integer> text) {
        return !text.isEmpty() && text.get(text.size() - 1) >= 97 && text.get(text.size() - 1) <= 122;
    }

    /** The code word of each symbol, from each symbol's number of bits. */
    static Map<Integer, String> codeWords(Map<Integer, Integer> lengths) {
        List<Integer> order = new ArrayList<>(lengths.keySet());
        Collections.sort(order, (a, b) -> lengths.get(a).equals(lengths.get(b))
            ? a - b : lengths.get(a) - lengths.get(b));
        Map<Integer, String> words = new HashMap<>();
        String before = null;
        for (int symbol : order) {
            String w = before == null ? "" : plusOne(before);
            while (w.length() < lengths.get(symbol)) {
                w += "0";
            }
            words.put(symbol, w);
            before = w;
        }
        return words;
    }

    private static String plusOne(String bits) {
        int cut = bits.lastIndexOf('0');
        if (cut < 0) {
            return bits;
        }
        StringBuilder row = new StringBuilder(bits.substring(0, cut) + "1");
        while (row.length() < bits.length()) {
            row.append('0');
        }
        return row.toString();
    }

    // ---- unpacking

    private static final class In {
        final String bits;
        int place = 0;
        final List<Integer> text = new ArrayList<>();
        final List<Integer> ring = new ArrayList<>(List.of(1, 2, 4, 8));
        final int[] counts = new int[4];
        /** What has been read, in words: blocks with their commands, and the descriptions of codes. */
        final List<String> commands = new ArrayList<>();
        final List<String> codes = new ArrayList<>();
        int end;

        In(String bits) {
            this.bits = bits;
        }

        int bit() {
            if (place >= bits.length()) {
                throw new Failure();
            }
            return bits.charAt(place++) - '0';
        }

        int num(int n) {
            int value = 0;
            for (int k = 0; k < n; k++) {
                value += bit() << k;
            }
            return value;
        }

        int symbol(Map<Integer, String> code) {
            counts[3]++;
            String w = "";
            while (true) {
                for (Map.Entry<Integer, String> e : code.entrySet()) {
                    if (e.getValue().equals(w)) {
                        return e.getKey();
                    }
                }
                w += bit();
            }
        }

        void zeros() {
            while (place % 8 != 0) {
                if (bit() != 0) {
                    throw new Failure();
                }
            }
        }

        void yield(int b) {
            if (text.size() >= end || text.size() >= 96) {
                throw new Failure();
            }
            text.add(b);
        }
    }

    static Result unpack(int[] stream) {
        StringBuilder bits = new StringBuilder();
        for (int b : stream) {
            bits.append(number(b, 8));
        }
        In in = readBlocks(bits.toString());
        in.zeros();
        if (in.place != bits.length()) {
            throw new Failure();
        }
        Result r = new Result();
        r.bytes = in.text.stream().mapToInt(Integer::intValue).toArray();
        r.counts = in.counts;
        r.commands = in.commands;
        r.codes = in.codes;
        return r;
    }

    /** After how many of these bits the stream's last block has ended. */
    static int endOfBlocks(String bits) {
        return readBlocks(bits).place;
    }

    private static In readBlocks(String bits) {
        In in = new In(bits);
        boolean last;
        do {
            last = in.bit() == 1;
            if (last && in.bit() == 1) {
                break;
            }
            boolean coded = in.bit() == 1;
            int length = in.num(6) + 1;
            in.end = in.text.size() + length;
            if (coded) {
                codedBlock(in);
            } else {
                in.commands.add("raw " + length);
                in.zeros();
                for (int k = 0; k < length; k++) {
                    in.yield(in.num(8));
                }
            }
        } while (!last);
        return in;
    }

    private static Map<Integer, String> readCode(In in, String name, int s, int n) {
        Map<Integer, Integer> lengths = new TreeMap<>();
        StringBuilder row = new StringBuilder(name);
        if (in.bit() == 1) {
            row.append(" simple");
            int count = in.num(2) + 1;
            int[][] simple = {{0}, {1, 1}, {1, 2, 2}, {2, 2, 2, 2}};
            for (int k = 0; k < count; k++) {
                int symbol = in.num(n);
                row.append(" ").append(symbol);
                if (symbol >= s || lengths.put(symbol, simple[count - 1][k]) != null) {
                    throw new Failure();
                }
            }
            in.codes.add(row.toString());
            return codeWords(lengths);
        }
        row.append(" long");
        int space = 64;
        int symbol = 0;
        while (space > 0) {
            if (symbol >= s) {
                throw new Failure();
            }
            int b = in.num(3);
            row.append(" ").append(b);
            if (b == 7) {
                int run = in.num(4) + 3;
                row.append("*").append(run);
                symbol += run;
            } else if (b == 0) {
                symbol++;
            } else {
                lengths.put(symbol++, b);
                space -= 64 >> b;
            }
        }
        if (space < 0) {
            throw new Failure();
        }
        in.codes.add(row.toString());
        return codeWords(lengths);
    }

    private static void codedBlock(In in) {
        boolean map = in.bit() == 1;
        in.commands.add((map ? "mapped " : "coded ") + (in.end - in.text.size()));
        Map<Integer, String> a = readCode(in, "A", 256, 8);
        Map<Integer, String> b = map ? readCode(in, "B", 256, 8) : a;
        Map<Integer, String> commands = readCode(in, "commands", 32, 5);
        Map<Integer, String> distances = readCode(in, "distances", 14, 4);
        in.counts[0]++;
        while (in.text.size() < in.end) {
            int symbol = in.symbol(commands);
            int[] insertBase = {0, 1, 2, 6};
            int[] insertBits = {0, 0, 2, 6};
            int[] copyBase = {2, 3, 4, 5, 6, 10, 26, 3};
            int[] copyBits = {0, 0, 0, 0, 2, 4, 5, 0};
            int c = symbol % 8;
            int n = insertBase[symbol / 8] + in.num(insertBits[symbol / 8]);
            int m = copyBase[c] + in.num(copyBits[c]);
            StringBuilder row = new StringBuilder("[");
            for (int k = 0; k < n; k++) {
                int literal = in.symbol(small(in.text) ? b : a);
                in.yield(literal);
                row.append((char) literal);
            }
            row.append("] c").append(c);
            if (in.text.size() < in.end) {
                copy(in, c, m, distances, row);
            }
            in.commands.add(row.toString());
        }
    }

    private static void copy(In in, int c, int m, Map<Integer, String> distances, StringBuilder row) {
        int symbol = c == 7 ? 0 : in.symbol(distances);
        int[] base = {1, 2, 3, 5, 9, 17, 33, 65};
        int d;
        if (symbol < 4) {
            d = in.ring.get(symbol);
        } else if (symbol < 6) {
            d = in.ring.get(0) + (symbol == 4 ? -1 : 1);
        } else {
            d = base[symbol - 6] + in.num(symbol < 8 ? 0 : symbol - 7);
        }
        if (d == 0) {
            throw new Failure();
        }
        int x = d - in.text.size() - 1;
        if (x < 0) {
            for (int k = 0; k < m; k++) {
                in.yield(in.text.get(in.text.size() - d));
            }
            if (symbol != 0) {
                in.ring.add(0, d);
                in.ring.remove(4);
            }
            in.counts[1]++;
            row.append(" copy ").append(m).append(" from ").append(d).append(c == 7 ? "" : " by " + symbol);
            return;
        }
        if (m != 4 && m != 5 || x / 4 > 3) {
            throw new Failure();
        }
        for (char letter : word(m, x).toCharArray()) {
            in.yield(letter);
        }
        in.counts[2]++;
        row.append(" word ").append(m).append(".").append(x).append(" by ").append(symbol);
    }

    // ---- packing

    private static final class Command {
        int from;
        int n;
        int c;
        String copyBits = "";
        int distance = -1;
        String distanceBits = "";
    }

    static Result pack(int[] text) {
        StringBuilder out = new StringBuilder();
        List<Integer> ring = new ArrayList<>(List.of(1, 2, 4, 8));
        int[] counts = new int[4];
        List<int[]> ends = new ArrayList<>();
        if (text.length == 0) {
            out.append("11");
        }
        for (int p = 0; p < text.length; p += 48) {
            int end = Math.min(text.length, p + 48);
            String head = end == text.length ? "10" : "0";
            List<Integer> ringAfter = new ArrayList<>(ring);
            int[] blockCounts = {1, 0, 0, 0};
            List<Command> commands = parse(text, p, end, ringAfter, blockCounts);
            StringBuilder raw = new StringBuilder(head + "0" + number(end - p - 1, 6));
            while ((out.length() + raw.length()) % 8 != 0) {
                raw.append('0');
            }
            for (int k = p; k < end; k++) {
                raw.append(number(text[k], 8));
            }
            String[] ways = {raw.toString(),
                head + "1" + number(end - p - 1, 6) + "0" + coded(text, commands, false),
                head + "1" + number(end - p - 1, 6) + "1" + coded(text, commands, true)};
            ends.add(new int[] {out.length() + ways[0].length(), out.length() + ways[1].length(),
                out.length() + ways[2].length()});
            int best = 0;
            for (int w = 1; w < 3; w++) {
                if (ways[w].length() < ways[best].length()) {
                    best = w;
                }
            }
            WAYS[best]++;
            for (int w = best + 1; w < 3; w++) {
                TIES[w] += ways[w].length() == ways[best].length() ? 1 : 0;
            }
            out.append(ways[best]);
            if (best > 0) {
                ring = ringAfter;
                for (int k = 0; k < 4; k++) {
                    counts[k] += blockCounts[k];
                }
            }
        }
        Result r = new Result();
        r.bytes = new int[(out.length() + 7) / 8];
        for (int k = 0; k < out.length(); k++) {
            r.bytes[k / 8] |= (out.charAt(k) - '0') << (k % 8);
        }
        r.counts = counts;
        r.ends = ends;
        return r;
    }

    private static List<Command> parse(int[] text, int p, int end, List<Integer> ring, int[] counts) {
        StringBuilder all = new StringBuilder();
        for (int b : text) {
            all.append((char) b);
        }
        List<Command> commands = new ArrayList<>();
        int q = p;
        int since = p;
        while (q < end) {
            int longest = 0;
            int distance = 0;
            for (int d = q; d >= 1; d--) {
                int n = 0;
                while (n < 57 && q + n < end && text[q + n] == text[q - d + n]) {
                    n++;
                }
                if (n > 0 && n >= longest) {
                    longest = n;
                    distance = d;
                }
            }
            int wordYield = 0;
            int wordM = 0;
            int wordX = 0;
            for (int m = 5; m >= 4; m--) {
                for (int x = 15; x >= 0; x--) {
                    String w = word(m, x);
                    if (all.substring(q, end).startsWith(w) && w.length() >= wordYield) {
                        wordYield = w.length();
                        wordM = m;
                        wordX = x;
                    }
                }
            }
            boolean isWord = wordYield >= 4 && wordYield > longest;
            if (!isWord && longest < 3) {
                q++;
                continue;
            }
            Command k = new Command();
            k.from = since;
            k.n = q - since;
            if (isWord) {
                k.c = wordM - 2;
                farDistance(k, q + 1 + wordX);
                counts[2]++;
                q += wordYield;
            } else {
                copyCommand(k, longest, distance, ring);
                counts[1]++;
                q += longest;
            }
            since = q;
            commands.add(k);
        }
        if (since < end) {
            Command k = new Command();
            k.from = since;
            k.n = end - since;
            commands.add(k);
        }
        for (Command k : commands) {
            counts[3] += 1 + k.n + (k.distance < 0 ? 0 : 1);
        }
        return commands;
    }

    private static void copyCommand(Command k, int m, int d, List<Integer> ring) {
        if (m == 3 && ring.get(0) == d) {
            k.c = 7;
            return;
        }
        if (m <= 5) {
            k.c = m - 2;
        } else if (m <= 9) {
            k.c = 4;
            k.copyBits = number(m - 6, 2);
        } else if (m <= 25) {
            k.c = 5;
            k.copyBits = number(m - 10, 4);
        } else {
            k.c = 6;
            k.copyBits = number(m - 26, 5);
        }
        if (ring.contains(d)) {
            k.distance = ring.indexOf(d);
        } else if (ring.get(0) - 1 == d) {
            k.distance = 4;
        } else if (ring.get(0) + 1 == d) {
            k.distance = 5;
        } else {
            farDistance(k, d);
        }
        if (k.distance != 0) {
            ring.add(0, d);
            ring.remove(4);
        }
    }

    private static void farDistance(Command k, int d) {
        int[] first = {1, 2, 3, 5, 9, 17, 33, 65, 129};
        for (int n = 0; n < 8; n++) {
            if (d >= first[n] && d < first[n + 1]) {
                k.distance = 6 + n;
                k.distanceBits = number(d - first[n], Math.max(0, n - 1));
            }
        }
    }

    private static String coded(int[] text, List<Command> commands, boolean map) {
        TreeMap<Integer, Integer> a = new TreeMap<>();
        TreeMap<Integer, Integer> b = new TreeMap<>();
        TreeMap<Integer, Integer> c = new TreeMap<>();
        TreeMap<Integer, Integer> d = new TreeMap<>();
        for (Command k : commands) {
            c.merge(8 * insert(k.n) + k.c, 1, Integer::sum);
            for (int q = k.from; q < k.from + k.n; q++) {
                (map && isB(text, q) ? b : a).merge(text[q], 1, Integer::sum);
            }
            if (k.distance >= 0) {
                d.merge(k.distance, 1, Integer::sum);
            }
        }
        Map<Integer, String> wordsA = new HashMap<>();
        Map<Integer, String> wordsB = new HashMap<>();
        Map<Integer, String> wordsC = new HashMap<>();
        Map<Integer, String> wordsD = new HashMap<>();
        StringBuilder out = new StringBuilder();
        out.append(describe(a, 8, wordsA));
        if (map) {
            out.append(describe(b, 8, wordsB));
        }
        out.append(describe(c, 5, wordsC)).append(describe(d, 4, wordsD));
        for (Command k : commands) {
            int i = insert(k.n);
            out.append(wordsC.get(8 * i + k.c));
            out.append(i == 2 ? number(k.n - 2, 2) : i == 3 ? number(k.n - 6, 6) : "");
            out.append(k.copyBits);
            for (int q = k.from; q < k.from + k.n; q++) {
                out.append((map && isB(text, q) ? wordsB : wordsA).get(text[q]));
            }
            if (k.distance >= 0) {
                out.append(wordsD.get(k.distance)).append(k.distanceBits);
            }
        }
        return out.toString();
    }

    private static boolean isB(int[] text, int q) {
        return q > 0 && text[q - 1] >= 97 && text[q - 1] <= 122;
    }

    private static int insert(int n) {
        return n < 2 ? n : n < 6 ? 2 : 3;
    }

    /** The description of the code for these numbers of times; fills in the code words. */
    private static String describe(TreeMap<Integer, Integer> times, int n, Map<Integer, String> words) {
        if (times.isEmpty()) {
            times.put(0, 1);
        }
        List<Integer> symbols = new ArrayList<>(times.keySet());
        TreeMap<Integer, Integer> lengths = new TreeMap<>();
        StringBuilder out = new StringBuilder();
        if (symbols.size() <= 4) {
            if (symbols.size() == 3) {
                int most = Collections.max(times.values());
                for (int symbol : times.keySet()) {
                    if (times.get(symbol) == most) {
                        symbols.remove(Integer.valueOf(symbol));
                        symbols.add(0, symbol);
                        break;
                    }
                }
            }
            int[][] simple = {{0}, {1, 1}, {1, 2, 2}, {2, 2, 2, 2}};
            out.append("1").append(number(symbols.size() - 1, 2));
            for (int k = 0; k < symbols.size(); k++) {
                lengths.put(symbols.get(k), simple[symbols.size() - 1][k]);
                out.append(number(symbols.get(k), n));
            }
        } else {
            lengthsByTimes(times, lengths);
            out.append("0").append(lengthNumbers(lengths));
        }
        words.putAll(codeWords(lengths));
        Set<String> distinct = new HashSet<>(words.values());
        if (distinct.size() != symbols.size()) {
            throw new IllegalStateException("two symbols have one code word");
        }
        return out.toString();
    }

    private static void lengthsByTimes(TreeMap<Integer, Integer> times, TreeMap<Integer, Integer> lengths) {
        int t = times.values().stream().mapToInt(Integer::intValue).sum();
        int space = 64;
        for (int symbol : times.keySet()) {
            int b = 1;
            while (times.get(symbol) << b < t) {
                b++;
            }
            lengths.put(symbol, b);
            space -= 64 >> b;
        }
        while (space > 0) {
            for (int symbol : times.keySet()) {
                int b = lengths.get(symbol);
                int after = space + (64 >> b) - (64 >> (b - 1));
                if (b > 1 && after >= 0) {
                    lengths.put(symbol, b - 1);
                    space = after;
                }
            }
        }
    }

    private static String lengthNumbers(TreeMap<Integer, Integer> lengths) {
        StringBuilder out = new StringBuilder();
        int next = 0;
        for (int symbol : lengths.keySet()) {
            int z = symbol - next;
            while (z >= 3) {
                int run = Math.min(z, 18);
                out.append(number(7, 3)).append(number(run - 3, 4));
                z -= run;
            }
            for (int k = 0; k < z; k++) {
                out.append("000");
            }
            out.append(number(lengths.get(symbol), 3));
            next = symbol + 1;
        }
        return out.toString();
    }
}
