import java.util.Arrays;
import java.util.List;
import java.util.function.BooleanSupplier;

/** What the tests share: comparing answers, and filling and reading an object. */
final class Check {
    /** What no byte is, and what no place of a text or a stream is. */
    static final int[] NO_BYTES = {-1, 256, -256, 511, Integer.MAX_VALUE, Integer.MIN_VALUE};

    private static String sentence = "";
    private static int sentences = 0;
    private static int wrong = 0;

    private Check() {
    }

    /** The words of the document that the answers up to the next such call are held against. */
    static void says(String words) {
        sentence = words;
        sentences++;
    }

    static void due(String what, long got, long want) {
        if (got != want) {
            tell(what, Long.toString(got), Long.toString(want));
        }
    }

    static void due(String what, boolean got, boolean want) {
        if (got != want) {
            tell(what, Boolean.toString(got), Boolean.toString(want));
        }
    }

    static void due(String what, int[] got, int[] want) {
        if (!Arrays.equals(got, want)) {
            tell(what, Arrays.toString(got), Arrays.toString(want));
        }
    }

    static void due(String what, List<String> got, String... want) {
        if (!got.equals(List.of(want))) {
            tell(what, got.toString(), List.of(want).toString());
        }
    }

    private static void tell(String what, String got, String want) {
        wrong++;
        String words = sentence.isEmpty() ? "" : "\"" + sentence + "\" ";
        System.out.println(words + what + ": answered " + got + ", due is " + want);
    }

    static void finish() {
        String kept = sentences == 0 ? "" : sentences + " times a sentence of the document: ";
        System.out.println(kept + (wrong == 0 ? "all answers are as due" : wrong + " answers are not as due"));
        if (wrong != 0) {
            System.exit(1);
        }
    }

    /** A call that answers false and changes nothing that can be read. */
    static void refuses(String what, Box x, BooleanSupplier call) {
        State before = State.of(x);
        due(what, call.getAsBoolean(), false);
        before.due("after " + what, x);
    }

    /** An unpack of what stands in the object: it fails and changes nothing that can be read. */
    static void failsHere(String what, Box x) {
        State before = State.of(x);
        due(what, x.unpack(), RingPacker.FAILS);
        before.due("after " + what, x);
    }

    static int[] bytes(String s) {
        return s.chars().toArray();
    }

    static Box withText(int[] text) {
        Box x = new Box();
        setText(x, text);
        return x;
    }

    static Box withText(String text) {
        return withText(bytes(text));
    }

    static Box withStream(int[] stream) {
        Box x = new Box();
        setStream(x, stream);
        return x;
    }

    static void setStream(Box x, int[] stream) {
        due("trim(0)", x.trim(0), true);
        for (int b : stream) {
            due("append(" + b + ")", x.append(b), true);
        }
    }

    static void setText(Box x, int[] text) {
        x.clear();
        for (int b : text) {
            due("put(" + b + ")", x.put(b), true);
        }
    }

    static int[] textOf(Box x) {
        int[] text = new int[x.length()];
        for (int k = 0; k < text.length; k++) {
            text[k] = x.at(k);
        }
        return text;
    }

    static int[] streamOf(Box x) {
        int[] stream = new int[x.size()];
        for (int k = 0; k < stream.length; k++) {
            stream[k] = x.byteAt(k);
        }
        return stream;
    }

    /** The four counts of the coded blocks: coded, copies, words, symbols. */
    static int[] countsOf(Box x) {
        return new int[] {x.coded(), x.copies(), x.words(), x.symbols()};
    }

    /** The stream yields this text; the stream stays, and the text that was there is gone. */
    static void yields(String name, String want, BitsOut stream) {
        Box x = withText("old");
        setStream(x, stream.bytes());
        due(name + ": unpack()", x.unpack(), want.length());
        due(name + ": text", textOf(x), bytes(want));
        due(name + ": at(length)", x.at(want.length()), -1);
        due(name + ": stream stays", streamOf(x), stream.bytes());
    }

    static void fails(String name, BitsOut stream) {
        fails(name, stream.bytes());
    }

    /** Unpacking the stream fails and changes nothing: not the text, nor the stream, nor a count. */
    static void fails(String name, int[] stream) {
        Box x = withText("that that");
        x.pack();
        setStream(x, stream);
        due(name + ": unpack()", x.unpack(), RingPacker.FAILS);
        new State(bytes("that that"), stream, 1, 1, 1, 4).due(name, x);
    }

    /** The text's stream, after looking that it yields the text again. */
    static int[] packed(String name, String text) {
        Box x = withText(text);
        int size = x.pack();
        int[] stream = streamOf(x);
        due(name + ": pack() and size", size, stream.length);
        due(name + ": text stays", textOf(x), bytes(text));
        x.clear();
        due(name + ": unpack()", x.unpack(), text.length());
        due(name + ": text again", textOf(x), bytes(text));
        return stream;
    }

    static void packs(String name, String text, BitsOut want) {
        due(name + ": stream", packed(name, text), want.bytes());
    }

    /** The blocks and commands of the text's stream, as the model reads them out. */
    static void parses(String name, String text, String... want) {
        due(name + ": commands", Model.unpack(packed(name, text)).commands, want);
    }

    /** The descriptions of codes in the text's stream, as the model reads them out. */
    static void describes(String name, String text, String... want) {
        due(name + ": codes", Model.unpack(packed(name, text)).codes, want);
    }
}
