import java.util.Arrays;
import java.util.Random;

/**
 * Promises 6, 7 and 13 to 16 against the Model: texts of many kinds, streams that were changed in
 * a byte, and streams made by chance. The seeds are fixed, so every run does the same.
 */
public final class ModelTest {
    private static final String[] PIECES = {
        "that", "with", "from", "have", "which", "there", "their", "about", " ", " ", ", ",
        "That ", "With ", "From", "Have ", "Which ", "There ", "Their", "About ", "hat", "ith", "rom",
        "ave", "hich", "here", "heir", "bout", "that ", "there ", "abc", "aaaa", "xyz", "e", "t"};

    public static void main(String[] args) {
        Random chance = new Random(20261115);
        for (int turn = 0; turn < 6000; turn++) {
            packLikeModel(someText(chance, turn % 8), "text " + turn);
        }
        for (int way = 0; way < 3; way++) {
            Check.due("some block is written in way " + way, Model.WAYS[way] > 200, true);
        }
        Check.due("way 1 ties with an earlier one", Model.TIES[1] > 0, true);
        Check.due("way 2 ties with an earlier one", Model.TIES[2] > 0, true);
        for (int turn = 0; turn < 3000; turn++) {
            changedStream(chance, "changed stream " + turn);
        }
        for (int turn = 0; turn < 1000; turn++) {
            oneObject(chance, "one object " + turn);
        }
        int sound = 0;
        for (int turn = 0; turn < 20000; turn++) {
            sound += madeStream(chance, "made stream " + turn) ? 1 : 0;
        }
        Check.due("enough of the made streams are sound", sound > 1000, true);
        Check.finish();
    }

    private static int[] someText(Random chance, int kind) {
        int length = chance.nextInt(8) == 0 ? 48 * chance.nextInt(3) : chance.nextInt(97);
        int[] text = new int[length];
        if (kind < 2) {
            StringBuilder row = new StringBuilder();
            while (row.length() < length) {
                row.append(PIECES[chance.nextInt(PIECES.length)]);
            }
            return Check.bytes(row.substring(0, length));
        }
        int letters = new int[] {0, 0, 256, 2, 4, 12, 30, 60}[kind];
        int first = chance.nextInt(257 - letters);
        for (int k = 0; k < length; k++) {
            text[k] = first + Math.min(chance.nextInt(letters), chance.nextInt(letters));
            if (k > 2 && chance.nextInt(6) == 0) {
                int d = 1 + chance.nextInt(k);
                for (int n = 3 + chance.nextInt(6); n > 0 && k < length; n--) {
                    text[k] = text[k - d];
                    k++;
                }
                k--;
            }
        }
        return text;
    }

    private static void packLikeModel(int[] text, String name) {
        Box x = Check.withText(text);
        Model.Result want = Model.pack(text);
        Check.due(name + " pack()", x.pack(), want.bytes.length);
        Check.due(name + " stream", Check.streamOf(x), want.bytes);
        Check.due(name + " counts", Check.countsOf(x), want.counts);
        Check.due(name + " text stays", Check.textOf(x), text);
        x.clear();
        Check.due(name + " unpack()", x.unpack(), text.length);
        Check.due(name + " comes back", Check.textOf(x), text);
        Check.due(name + " counts again", Check.countsOf(x), want.counts);
        Check.due(name + " stream stays", Check.streamOf(x), want.bytes);
    }

    /** Packs and unpacks several texts in turn, so that nothing of the one before may be left over. */
    private static void oneObject(Random chance, String name) {
        Box x = new Box();
        // So few that the object's 512 calls are enough: two texts that may be long, or four short ones.
        boolean mayBeLong = chance.nextBoolean();
        for (int turn = 0; turn < (mayBeLong ? 2 : 4); turn++) {
            int[] text = someText(chance, chance.nextInt(8));
            text = Arrays.copyOf(text, Math.min(text.length, mayBeLong ? 72 : 30));
            Model.Result want = Model.pack(text);
            Check.setText(x, text);
            Check.due(name + " pack()", x.pack(), want.bytes.length);
            Check.due(name + " stream", Check.streamOf(x), want.bytes);
            int last = x.byteAt(x.size() - 1);
            x.poke(x.size() - 1, last ^ 1 << chance.nextInt(8));
            x.unpack();
            x.poke(x.size() - 1, last);
            Check.due(name + " unpack()", x.unpack(), text.length);
            Check.due(name + " text", Check.textOf(x), text);
            Check.due(name + " counts", Check.countsOf(x), want.counts);
        }
    }

    private static void unpackLikeModel(int[] stream, String name) {
        Box x = Check.withText(Check.bytes("old"));
        Check.setStream(x, stream);
        try {
            Model.Result want = Model.unpack(stream);
            Check.due(name + " unpack()", x.unpack(), want.bytes.length);
            Check.due(name + " text", Check.textOf(x), want.bytes);
            Check.due(name + " counts", Check.countsOf(x), want.counts);
        } catch (Model.Failure failure) {
            Check.due(name + " fails", x.unpack(), RingPacker.FAILS);
            Check.due(name + " text stays", Check.textOf(x), Check.bytes("old"));
            Check.due(name + " counts stay", Check.countsOf(x), new int[4]);
        }
        Check.due(name + " stream stays", Check.streamOf(x), stream);
    }

    private static void changedStream(Random chance, String name) {
        int[] stream = Model.pack(someText(chance, chance.nextInt(8))).bytes;
        for (int turn = 0; turn < 8; turn++) {
            int[] changed = stream.clone();
            changed[chance.nextInt(changed.length)] ^= 1 << chance.nextInt(8);
            unpackLikeModel(changed, name);
        }
        unpackLikeModel(Arrays.copyOf(stream, chance.nextInt(stream.length)), name);
        unpackLikeModel(Arrays.copyOf(stream, stream.length + 1), name);
    }

    /** Sound codes and then bits by chance; where the blocks end by them, the stream is cut off. */
    private static boolean madeStream(Random chance, String name) {
        StringBuilder bits = new StringBuilder();
        if (chance.nextInt(3) == 0) {
            bits.append("00").append(Model.number(39, 6));
            for (int k = 0; k < 40; k++) {
                bits.append(Model.number("abz .T".charAt(chance.nextInt(6)), 8));
            }
        }
        boolean map = chance.nextBoolean();
        bits.append("101").append(Model.number(chance.nextInt(64), 6)).append(map ? "1" : "0");
        bits.append(someCode(chance, 256, 8));
        if (map) {
            bits.append(someCode(chance, 256, 8));
        }
        bits.append(someCode(chance, 32, 5)).append(someCode(chance, 14, 4));
        for (int k = 0; k < 1600; k++) {
            bits.append(chance.nextInt(2));
        }
        int end;
        boolean sound = true;
        try {
            end = Model.endOfBlocks(bits.toString());
        } catch (Model.Failure failure) {
            end = bits.length();
            sound = false;
        }
        bits.setLength(Math.min(end, 1600));
        while (bits.length() % 8 != 0) {
            bits.append('0');
        }
        unpackLikeModel(new BitsOut().raw(bits.toString()).bytes(), name);
        return sound;
    }

    private static String someCode(Random chance, int s, int n) {
        if (chance.nextInt(2) == 0) {
            int kinds = 1 + chance.nextInt(4);
            StringBuilder row = new StringBuilder("1").append(Model.number(kinds - 1, 2));
            int first = chance.nextInt(s);
            for (int k = 0; k < kinds; k++) {
                row.append(Model.number((first + k * 5) % s, n));
            }
            return row.toString();
        }
        int[] lengths = new int[s];
        int places = Math.min(s, 3 + chance.nextInt(40));
        int from = chance.nextInt(s - places + 1);
        splitSpace(chance, lengths, from, from + places, 0);
        StringBuilder row = new StringBuilder("0");
        int last = s - 1;
        while (lengths[last] == 0) {
            last--;
        }
        int k = 0;
        while (k <= last) {
            int z = 0;
            while (lengths[k + z] == 0 && z < 18) {
                z++;
            }
            if (z >= 3 && chance.nextInt(4) > 0) {
                row.append("111").append(Model.number(z - 3, 4));
                k += z;
            } else {
                row.append(Model.number(lengths[k], 3));
                k++;
            }
        }
        return row.toString();
    }

    /** Gives the places from .. to - 1 a complete code below a node of the given depth. */
    private static void splitSpace(Random chance, int[] lengths, int from, int to, int depth) {
        int room = to - from;
        if (depth == 6 || room < 2 || depth > 0 && chance.nextInt(5) == 0) {
            lengths[from + chance.nextInt(room)] = depth;
            return;
        }
        int middle = from + 1 + chance.nextInt(room - 1);
        splitSpace(chance, lengths, from, middle, depth + 1);
        splitSpace(chance, lengths, middle, to, depth + 1);
    }
}
