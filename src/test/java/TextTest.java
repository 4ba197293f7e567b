/** Promises 1 to 5: a new object, put, clear, length, at. */
public final class TextTest {
    private static final String MANY = "The text is as long as it may be: at most ninety-six bytes, "
        + "no more, and the next is refused: no";

    public static void main(String[] args) {
        newObject();
        objectsStandAlone();
        putAtTheEnd();
        putRefusesWhatIsNoByte();
        putRefusesThe97th();
        putBehindUnpackedText();
        clearEmptiesTheText();
        lengthCountsBytes();
        atHasNoPlaceOutside();
        atForgetsLongerTexts();
        Check.finish();
    }

    private static Box packedBox() {
        Box x = Check.withText("that that");
        x.pack();
        return x;
    }

    private static Box fullBox() {
        return Check.withText(MANY.substring(0, 96));
    }

    private static void newObject() {
        Check.says("An empty text, and a stream without bytes.");
        State.empty().due("new", new Box());
        Box x = new Box();
        Check.due("a new object's stream yields nothing", x.unpack(), RingPacker.FAILS);
        State.empty().due("new and unpacked", x);
        Box y = new Box();
        Check.due("a new object's text packs as one without bytes", y.pack(), 1);
        new State(new int[0], new int[] {3}, 0, 0, 0, 0).due("new and packed", y);
    }

    private static void objectsStandAlone() {
        Check.says("An empty text, and a stream without bytes.");
        Box x = packedBox();
        State before = State.of(x);
        Box y = new Box();
        State.empty().due("made after another was used", y);
        y.put(1);
        y.append(2);
        before.due("the other one", x);
    }

    private static void putAtTheEnd() {
        Check.says("Puts a byte at the end of the text: true;");
        for (int first = 0; first < 256; first += 64) {
            Box x = new Box();
            for (int b = first; b < first + 64; b++) {
                Check.due("put(" + b + ")", x.put(b), true);
                Check.due("length after put(" + b + ")", x.length(), b - first + 1);
                Check.due("at(" + (b - first) + ")", x.at(b - first), b);
            }
            Check.due("the first byte is still there", x.at(0), first);
        }
        Box x = packedBox();
        State before = State.of(x);
        Check.due("put(0)", x.put(0), true);
        new State(Check.bytes("that that\u0000"), before.stream, before.counts).due("put behind a pack", x);
    }

    private static void putRefusesWhatIsNoByte() {
        Check.says("false, changing nothing, when b is not 0 .. 255 or 96 bytes are there.");
        for (int b : Check.NO_BYTES) {
            Box x = new Box();
            Check.refuses("put(" + b + ") of a new object", x, () -> x.put(b));
            Box y = packedBox();
            Check.refuses("put(" + b + ") behind a text", y, () -> y.put(b));
        }
        Box x = new Box();
        Check.due("put(0), the least byte", x.put(0), true);
        Check.due("put(255), the greatest", x.put(255), true);
        Check.due("both stand there", Check.textOf(x), new int[] {0, 255});
    }

    private static void putRefusesThe97th() {
        Check.says("false, changing nothing, when b is not 0 .. 255 or 96 bytes are there.");
        Box x = Check.withText(MANY.substring(0, 95));
        Check.due("length 95", x.length(), 95);
        Check.due("a 96th byte", x.put(MANY.charAt(95)), true);
        for (int b : new int[] {0, 7, 255, 256, -1}) {
            Check.due("a 97th byte " + b, x.put(b), false);
        }
        new State(Check.bytes(MANY.substring(0, 96)), new int[0], 0, 0, 0, 0).due("full", x);
        Box y = Check.withText("ab".repeat(48));
        y.pack();
        Check.refuses("a 97th byte behind a pack", y, () -> y.put(7));
    }

    private static void putBehindUnpackedText() {
        Check.says("TEXT: at most 96 bytes 0 .. 255, at places 0, 1, ...");
        Box x = Check.withStream(new BitsOut().rawBlock(false, MANY.substring(0, 64))
            .rawBlock(true, MANY.substring(64, 95)).bytes());
        Check.due("95 bytes unpacked", x.unpack(), 95);
        int[] stream = Check.streamOf(x);
        Check.due("put behind them", x.put('!'), true);
        Check.due("a 97th", x.put('!'), false);
        new State(Check.bytes(MANY.substring(0, 95) + "!"), stream, 0, 0, 0, 0).due("95 bytes and one", x);
        stream = new BitsOut().rawBlock(false, MANY.substring(0, 64))
            .rawBlock(true, MANY.substring(64, 96)).bytes();
        Box y = Check.withStream(stream);
        Check.due("96 bytes unpacked", y.unpack(), 96);
        Check.due("put behind 96 unpacked bytes", y.put('!'), false);
        new State(Check.bytes(MANY.substring(0, 96)), stream, 0, 0, 0, 0).due("96 bytes", y);
    }

    private static void clearEmptiesTheText() {
        Check.says("The text becomes empty; the stream stays.");
        Box x = packedBox();
        State before = State.of(x);
        x.clear();
        new State(new int[0], before.stream, before.counts).due("cleared", x);
        x.clear();
        new State(new int[0], before.stream, before.counts).due("cleared twice", x);
        Check.due("the stream still yields the text", x.unpack(), 9);
        before.due("unpacked", x);
        Box y = new Box();
        y.clear();
        State.empty().due("a new object cleared", y);
        Box z = fullBox();
        z.clear();
        int[] others = new int[96];
        for (int k = 0; k < 96; k++) {
            others[k] = 255 - k;
            Check.due("put number " + k + " after clear", z.put(255 - k), true);
        }
        Check.due("a 97th after clear", z.put(1), false);
        new State(others, new int[0], 0, 0, 0, 0).due("full again", z);
    }

    private static void lengthCountsBytes() {
        Check.says("The number of bytes of the text.");
        Box x = new Box();
        Check.due("none", x.length(), 0);
        for (int k = 1; k <= 96; k++) {
            x.put(k);
            Check.due("after " + k + " bytes", x.length(), k);
        }
        x.pack();
        Check.due("after pack", x.length(), 96);
        x.clear();
        Check.due("after clear", x.length(), 0);
        Check.due("append leaves it", x.append(1) ? x.length() : -2, 0);
        x.trim(x.size() - 1);
        Check.due("unpack sets it", x.unpack() == 96 ? x.length() : -2, 96);
    }

    private static void atHasNoPlaceOutside() {
        Check.says("The byte at a place of the text; -1 when there is none.");
        int[] outside = {-1, -2, Integer.MIN_VALUE, Integer.MAX_VALUE};
        Box none = new Box();
        Check.due("at(0) of no bytes", none.at(0), -1);
        Box x = Check.withText(new int[] {0, 255, 97});
        Check.due("at(0)", x.at(0), 0);
        Check.due("at(1)", x.at(1), 255);
        Check.due("at(2), the last place", x.at(2), 97);
        for (int place : new int[] {3, 4, 95, 96, 97}) {
            Check.due("at(" + place + ")", x.at(place), -1);
        }
        Box full = fullBox();
        Check.due("at(95) of 96", full.at(95), MANY.charAt(95));
        Check.due("at(96) of 96", full.at(96), -1);
        for (int place : outside) {
            Check.due("at(" + place + ")", x.at(place), -1);
            Check.due("at(" + place + ") of 96", full.at(place), -1);
        }
    }

    private static void atForgetsLongerTexts() {
        Check.says("The byte at a place of the text; -1 when there is none.");
        Box x = packedBox();
        x.clear();
        Check.due("at(0) after clear", x.at(0), -1);
        x.put('x');
        Check.due("at(0) after clear and put", x.at(0), 'x');
        Check.due("at(1) after clear and put", x.at(1), -1);
        Box y = Check.withText("longer");
        Check.setStream(y, new BitsOut().rawBlock(true, "ab").bytes());
        Check.due("a shorter text unpacked", y.unpack(), 2);
        Check.due("its last place", y.at(1), 'b');
        Check.due("the place behind it", y.at(2), -1);
    }
}
