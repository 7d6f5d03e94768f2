/** Promise 2. */
final class EdgesOfFeed {
    private static final String BYTES =
        "The n lowest bytes of a number, the lowest first, come behind THE TAPE: how many it has.";

    private EdgesOfFeed() {
    }

    /** The same number, of which one byte to all eight are taken: f=1;g=23. */
    @Sentence(promise = 2, says = BYTES)
    static void oneByteToAllEight() {
        int[] read = {-11, -12, 2, -14, -15, -16, 4, 4};
        for (int n = 1; n <= 8; n++) {
            ConflictPlaces x = new ConflictPlaces();
            Check.due("feed(" + n + ", ..)", x.feed(n, 0x33323d673b313d66L), n);
            Check.due("told(7)", x.told(7), n);
            Check.due("read() of " + n + " bytes", x.read(), read[n - 1]);
        }
    }

    @Sentence(promise = 2, says = BYTES)
    static void higherBytesAreLeftOut() {
        ConflictPlaces x = new ConflictPlaces();
        Check.due("feed(1, f)", x.feed(1, 0xffffffffffffff66L), 1);
        Check.due("feed(1, =)", x.feed(1, 0x800000000000003dL), 2);
        Check.due("feed(1, 1)", x.feed(1, 0x7fffffffffffff31L), 3);
        Check.due("read()", x.read(), 2);
    }

    /** Numbers at whose end the sign turns: the eighth byte is a byte as the others are. */
    @Sentence(promise = 2, says = BYTES)
    static void negativeNumbers() {
        ConflictPlaces x = new ConflictPlaces();
        // "f=12345" and 255, then with 128
        Check.due("feed(8, ..)", x.feed(8, 0xff35343332313d66L), 8);
        Check.due("read()", x.read(), -17);
        Check.due("feed(8, ..)", x.feed(8, 0x8035343332313d66L), 8);
        Check.due("read()", x.read(), -17);
        Check.due("feed(7, ..)", x.feed(7, 0x8035343332313d66L), 7);
        Check.due("read()", x.read(), 2);
        long[] ends = {Long.MIN_VALUE, Long.MAX_VALUE, -1, 0};
        for (long bytes : ends) {
            Check.due("feed(8, " + bytes + ")", x.feed(8, bytes), 8);
            Check.due("read()", x.read(), -10);
        }
    }

    @Sentence(promise = 2, says = BYTES)
    static void bytesComeBehindThoseBefore() {
        ConflictPlaces x = new ConflictPlaces();
        Check.due("feed(2, f=)", x.feed(2, 0x3d66), 2);
        Check.due("feed(3, 1;g)", x.feed(3, 0x673b31), 5);
        Check.due("feed(2, =2)", x.feed(2, 0x323d), 7);
        Check.due("read()", x.read(), 4);
        Check.due("feed(1, ..) behind read()", x.feed(1, 'f'), 1);
    }

    @Sentence(promise = 2, says = "BAD: n is not 1 .. 8.")
    static void lessThanOneOrMoreThanEight() {
        ConflictPlaces x = new ConflictPlaces();
        Check.feed(x, "f=");
        int[] wrong = {0, -1, 9, 16, 257, Integer.MIN_VALUE, Integer.MIN_VALUE + 1, Integer.MAX_VALUE};
        for (int n : wrong) {
            Check.due("feed(" + n + ", ..)", x.feed(n, 0x31), Check.BAD);
            Check.due("told(7)", x.told(7), 2);
        }
        Check.due("feed(1, 1)", x.feed(1, 0x31), 3);
        Check.due("read()", x.read(), 2);
        Check.due("feed(8, ..)", x.feed(8, 0), 8);
    }

    @Sentence(promise = 2, says = "FULL.")
    static void eachNumberOfBytesThatJustFitsOrNot() {
        for (int n = 1; n <= 8; n++) {
            ConflictPlaces x = new ConflictPlaces();
            Check.feed(x, Check.times(" ", 240 - n));
            Check.due("feed(" + n + ", ..) on " + (240 - n), x.feed(n, 0), 240);
            ConflictPlaces y = new ConflictPlaces();
            Check.feed(y, Check.times(" ", 241 - n));
            Check.due("feed(" + n + ", ..) on " + (241 - n), y.feed(n, 0), Check.FULL);
            Check.due("told(7)", y.told(7), 241 - n);
        }
    }

    @Sentence(promise = 2, says = "THE TAPE has 240 bytes at most.")
    static void fullTape() {
        ConflictPlaces x = new ConflictPlaces();
        Check.feed(x, "f=" + Check.times(" ", 237) + "1");
        for (int n = 1; n <= 8; n++) {
            Check.due("feed(" + n + ", ..)", x.feed(n, 0x3131313131313131L), Check.FULL);
        }
        Check.due("told(7)", x.told(7), 240);
        Check.due("read()", x.read(), 2);
        Check.due("node(0, 0)", x.node(0, 0), 239);
    }

    /** Nothing of a number comes on the tape, if not all of it can. */
    @Sentence(promise = 2, says = "FULL.")
    static void noPartOfWhatIsRefused() {
        ConflictPlaces x = new ConflictPlaces();
        Check.feed(x, Check.times(" ", 234) + "f=1");
        // The next bytes would make it f=1)....
        Check.due("feed(4, ..)", x.feed(4, 0x29292929), Check.FULL);
        Check.due("feed(3, blanks)", x.feed(3, 0x202020), 240);
        Check.due("read()", x.read(), 2);
    }

    @Sentence(promise = 2, says = "FULL.")
    static void emptyAgainBehindRead() {
        ConflictPlaces x = new ConflictPlaces();
        for (int turn = 0; turn < 3; turn++) {
            Check.feed(x, Check.times(" ", 240));
            Check.due("feed(1, ..)", x.feed(1, ' '), Check.FULL);
            Check.due("read()", x.read(), -250);
        }
        Check.due("feed(8, ..)", x.feed(8, 0), 8);
    }
}
