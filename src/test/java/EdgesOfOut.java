/** Promise 18. */
final class EdgesOfOut {
    private static final String BYTE = "Byte i of THE OUT; NONE.";

    private EdgesOfOut() {
    }

    private static void none(ConflictPlaces x, int... places) {
        for (int i : places) {
            Check.due("out(" + i + ")", x.out(i), Check.NONE);
        }
    }

    @Sentence(promise = 18, says = BYTE)
    static void emptyOut() {
        none(new ConflictPlaces(), -1, 0, 1, 299, 300, 301, Integer.MIN_VALUE, Integer.MAX_VALUE);
        ConflictPlaces x = Check.of("f=1");
        none(x, -1, 0, 1);
        // What is refused writes nothing.
        x.type(1);
        x.binder(10);
        none(x, 0);
    }

    @Sentence(promise = 18, says = BYTE)
    static void firstAndLastByte() {
        ConflictPlaces x = Check.of("f=(1,\"\")");
        x.type(0);
        String want = "(Num,Text)";
        for (int i = 0; i < want.length(); i++) {
            Check.due("out(" + i + ")", x.out(i), want.charAt(i));
        }
        none(x, -1, -9, 10, 11, 299, 300, Integer.MIN_VALUE, Integer.MAX_VALUE);
    }

    @Sentence(promise = 18, says = BYTE)
    static void oneByte() {
        ConflictPlaces x = Check.of("f=f");
        x.type(0);
        Check.due("out(0)", x.out(0), 'a');
        none(x, -1, 1, 2);
    }

    @Sentence(promise = 18, says = BYTE)
    static void fullOut() {
        ConflictPlaces x = Check.of("a=((1,1),1);b=(a,a);c=(b,b);d=(c,c);e=(d,d);f=[[[[(e,\"\")]]]]");
        x.binder(16);
        Check.due("out(0)", x.out(0), '[');
        Check.due("out(290)", x.out(290), ',');
        Check.due("out(291)", x.out(291), 'T');
        Check.due("out(295)", x.out(295), ')');
        Check.due("out(299)", x.out(299), ']');
        none(x, -1, 300, 301, Integer.MIN_VALUE, Integer.MAX_VALUE);
    }

    /** Bytes of a longer one before are not there any more. */
    @Sentence(promise = 18, says = BYTE)
    static void shorterOneBehindLongerOne() {
        ConflictPlaces x = Check.of("f=(1,\"\")");
        x.type(0);
        x.type(1);
        Check.due("out(2)", x.out(2), 'm');
        none(x, 3, 4, 9);
    }

    /** Neither a new text nor a fault empties it. */
    @Sentence(promise = 18, says = BYTE)
    static void staysBehindRead() {
        ConflictPlaces x = Check.of("f=1");
        x.type(0);
        Check.read(x, "g=\"\"");
        Check.due("out", Check.out(x), "Num");
        x.read();
        Check.due("out", Check.out(x), "Num");
    }
}
