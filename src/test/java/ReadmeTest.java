/** The example of README.md, with the answers that it tells. */
public final class ReadmeTest {
    public static void main(String[] args) {
        RingPacker x = new RingPacker();
        for (char c : "that cat that sat".toCharArray()) {
            Check.due("put", x.put(c), true);
        }
        Check.due("pack()", x.pack(), 14);

        RingPacker y = new RingPacker();
        for (int k = 0; k < x.size(); k++) {
            Check.due("append", y.append(x.byteAt(k)), true);
        }
        Check.due("unpack()", y.unpack(), 17);
        Check.due("at(5)", y.at(5), 'c');
        Check.due("at(17)", y.at(17), -1);

        Check.due("trim(13)", y.trim(13), true);
        Check.due("unpack() without the end", y.unpack(), RingPacker.FAILS);
        Check.due("the text stays", y.length(), 17);
        Check.finish();
    }
}
