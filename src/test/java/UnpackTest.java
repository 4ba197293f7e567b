/** Promise 7: what becomes of text, stream and counts. The streams themselves are in other tests. */
public final class UnpackTest {
    public static void main(String[] args) {
        becomesWhatTheStreamYields();
        answersTheLength();
        streamStays();
        failsChangingNothing();
        failsOfANewObject();
        unpacksAgain();
        backFromEveryText();
        lastOf512Calls();
        Check.finish();
    }

    private static void becomesWhatTheStreamYields() {
        Check.says("The text becomes what the stream yields (the stream stays);");
        Box x = Check.withText("a longer text");
        int[] stream = new BitsOut().rawBlock(true, "abc").bytes();
        Check.setStream(x, stream);
        Check.due("a shorter one", x.unpack(), 3);
        new State(Check.bytes("abc"), stream, 0, 0, 0, 0).due("a shorter one", x);
        stream = new BitsOut().rawBlock(false, "abcdefgh").rawBlock(true, "ijklmnop").bytes();
        Check.setStream(x, stream);
        Check.due("a longer one", x.unpack(), 16);
        new State(Check.bytes("abcdefghijklmnop"), stream, 0, 0, 0, 0).due("a longer one", x);
        Check.setStream(x, new int[] {3});
        Check.due("none", x.unpack(), 0);
        new State(new int[0], new int[] {3}, 0, 0, 0, 0).due("none", x);
    }

    private static void answersTheLength() {
        Check.says("answers the text's length.");
        for (int n : new int[] {0, 1, 2, 47, 48, 49, 95, 96}) {
            Box x = Check.withText("ab".repeat(48).substring(0, n));
            x.pack();
            x.clear();
            Check.due(n + " bytes", x.unpack(), n);
            Check.due("length of " + n + " bytes", x.length(), n);
        }
    }

    private static void streamStays() {
        Check.says("(the stream stays);");
        for (String text : new String[] {"", "abc", "that that", "aXaYbYbX", "a".repeat(96)}) {
            Box x = Check.withText(text);
            x.pack();
            int[] stream = Check.streamOf(x);
            x.clear();
            x.unpack();
            Check.due("the stream of \"" + text + "\"", Check.streamOf(x), stream);
        }
    }

    private static void failsChangingNothing() {
        Check.says("FAILS, changing nothing, when unpacking fails.");
        Check.due("FAILS", RingPacker.FAILS, -1);
        // The first blocks of these are sound, and the text that they yield must not be seen.
        Check.fails("behind a raw block", new BitsOut().rawBlock(false, "abcdefghijkl"));
        Check.fails("behind a coded block", new BitsOut().literalsOfOneBit(false, 20));
        Check.fails("behind a last block", new BitsOut().rawBlock(true, "abcdefghijkl").num(0, 8));
        Check.fails("behind a copy and a word", new BitsOut().head(true, true, 9).raw("0").simple(8, 0)
            .simple(5, 2).simple(4, 9, 10).raw("1").num(0, 3).raw("0").num(0, 2).align().num(0, 8));
        Check.fails("within the second block's codes", new BitsOut().rawBlock(false, "abc")
            .head(true, true, 1).raw("0").simple(8, 'a', 'a').simple(5, 8).simple(4, 0));
    }

    private static void failsOfANewObject() {
        Check.says("FAILS, changing nothing, when unpacking fails.");
        Box x = new Box();
        Check.due("no bytes", x.unpack(), RingPacker.FAILS);
        State.empty().due("no bytes", x);
        x.append(1);
        Check.due("half a block", x.unpack(), RingPacker.FAILS);
        new State(new int[0], new int[] {1}, 0, 0, 0, 0).due("half a block", x);
    }

    private static void unpacksAgain() {
        Check.says("The text becomes what the stream yields (the stream stays);");
        Box x = Check.withText("that that");
        x.pack();
        State packed = State.of(x);
        for (int turn = 0; turn < 5; turn++) {
            Check.due("turn " + turn, x.unpack(), 9);
            packed.due("turn " + turn, x);
        }
        x.put('!');
        Check.due("the text is changed and unpacked once more", x.unpack(), 9);
        packed.due("once more", x);
    }

    private static void backFromEveryText() {
        Check.says("Packs a short text into a stream of bits and takes it out of a stream again:");
        String all = "There is that which their weather is about, from there with the others that have it "
            + "or had it too";
        for (int n = 0; n <= 96; n++) {
            Check.packed("the first " + n, all.substring(0, n));
        }
    }

    private static void lastOf512Calls() {
        Check.says("An object is used for at most 512 calls after it has been made;");
        Box x = Check.withText("There is that which their weather is about, from there with it");
        int length = x.length();
        int size = x.pack();
        while (x.calls() < Box.MOST_CALLS - 6) {
            Check.due("unpack as call " + x.calls(), x.unpack(), length);
            Check.due("pack as call " + x.calls(), x.pack(), size);
        }
        x.trim(0);
        x.append(3);
        Check.due("unpack near the end", x.unpack(), 0);
        while (x.calls() < Box.MOST_CALLS - 1) {
            x.put('a');
        }
        Check.due("the last call", x.pack() > 0, true);
        Check.due("calls", x.calls(), Box.MOST_CALLS);
    }
}
