import java.util.Arrays;

/** What the tests share: comparing answers, and filling and reading a RingPacker. */
final class Check {
    private static int wrong = 0;

    private Check() {
    }

    static void due(String what, long got, long want) {
        if (got != want) {
            wrong++;
            System.out.println(what + ": answered " + got + ", due is " + want);
        }
    }

    static void due(String what, boolean got, boolean want) {
        due(what, got ? 1 : 0, want ? 1 : 0);
    }

    static void due(String what, int[] got, int[] want) {
        if (!Arrays.equals(got, want)) {
            wrong++;
            System.out.println(what + ": answered " + Arrays.toString(got)
                + ", due is " + Arrays.toString(want));
        }
    }

    static void finish() {
        System.out.println(wrong == 0 ? "all answers are as due" : wrong + " answers are not as due");
        if (wrong != 0) {
            System.exit(1);
        }
    }

    static int[] bytes(String s) {
        return s.chars().toArray();
    }

    static RingPacker withText(int[] text) {
        RingPacker x = new RingPacker();
        for (int b : text) {
            due("put(" + b + ")", x.put(b), true);
        }
        return x;
    }

    static RingPacker withStream(int[] stream) {
        RingPacker x = new RingPacker();
        setStream(x, stream);
        return x;
    }

    static void setStream(RingPacker x, int[] stream) {
        due("trim(0)", x.trim(0), true);
        for (int b : stream) {
            due("append(" + b + ")", x.append(b), true);
        }
    }

    static void setText(RingPacker x, int[] text) {
        x.clear();
        for (int b : text) {
            due("put(" + b + ")", x.put(b), true);
        }
    }

    static int[] textOf(RingPacker x) {
        int[] text = new int[x.length()];
        for (int k = 0; k < text.length; k++) {
            text[k] = x.at(k);
        }
        return text;
    }

    static int[] streamOf(RingPacker x) {
        int[] stream = new int[x.size()];
        for (int k = 0; k < stream.length; k++) {
            stream[k] = x.byteAt(k);
        }
        return stream;
    }

    /** The four counts of the coded blocks: coded, copies, words, symbols. */
    static int[] countsOf(RingPacker x) {
        return new int[] {x.coded(), x.copies(), x.words(), x.symbols()};
    }
}
