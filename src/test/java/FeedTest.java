/** Promise 2. */
public final class FeedTest {
    public static void main(String[] args) {
        numbersOfBytes();
        lowestBytesFirst();
        fullTape();
        Check.end();
    }

    private static void numbersOfBytes() {
        ConflictPlaces x = new ConflictPlaces();
        int[] wrong = {0, -1, 9, 100, Integer.MIN_VALUE, Integer.MAX_VALUE};
        for (int n : wrong) {
            Check.due("feed(" + n + ", 0)", x.feed(n, 0), Check.BAD);
        }
        Check.due("told(7) behind refusals", x.told(7), 0);
        int length = 0;
        for (int n = 1; n <= 8; n++) {
            length += n;
            Check.due("feed(" + n + ", -1)", x.feed(n, -1), length);
            Check.due("told(7)", x.told(7), length);
        }
    }

    private static void lowestBytesFirst() {
        ConflictPlaces x = new ConflictPlaces();
        // "f=12" with bytes above it that are not taken.
        Check.due("feed(4, ..)", x.feed(4, 0x7f7f7f7f32313d66L), 4);
        Check.due("read()", x.read(), 2);
        // "g h=\x.7"
        Check.due("feed(8, ..)", x.feed(8, 0x372e785c3d682067L), 8);
        Check.due("read()", x.read(), 3);
        Check.due("node(1, 0)", x.node(1, 0), 7);
        // The highest byte is a byte as the others are: "f=aaaaa" and 255.
        Check.due("feed(8, negative)", x.feed(8, 0xff61616161613d66L), 8);
        Check.due("read()", x.read(), -17);
    }

    private static void fullTape() {
        ConflictPlaces x = new ConflictPlaces();
        for (int i = 1; i <= 29; i++) {
            Check.due("feed(8, blanks)", x.feed(8, 0x2020202020202020L), 8 * i);
        }
        Check.due("feed(4, blanks)", x.feed(4, 0x20202020L), 236);
        Check.due("feed(5, blanks)", x.feed(5, 0x2020202020L), Check.FULL);
        Check.due("told(7)", x.told(7), 236);
        Check.due("feed(4, f=1;)", x.feed(4, 0x20313d66L), 240);
        Check.due("feed(1, blank)", x.feed(1, 32), Check.FULL);
        Check.due("feed(9, 0): BAD is ahead of FULL", x.feed(9, 0), Check.BAD);
        Check.due("told(7)", x.told(7), 240);
        Check.due("read()", x.read(), 2);
        Check.due("told(7) behind read()", x.told(7), 0);
        Check.due("node(0, 0)", x.node(0, 0), 238);
        Check.due("feed(1, blank)", x.feed(1, 32), 1);
    }
}
