/** Promise 18: the bytes of THE OUT, and what changes it. */
public final class OutTest {
    public static void main(String[] args) {
        ConflictPlaces x = Check.of("f x = [x]; g = 1 + \"\"");
        bytes(x, "");
        x.binder(11);
        bytes(x, "");
        x.without(9, 1);
        bytes(x, "a");
        x.mended(0, 11);
        bytes(x, "a -> [a]");
        x.without(9, 0);
        bytes(x, "[a]");
        refusalsAndOtherCalls(x);
        Check.read(x, "h = (1, not)");
        bytes(x, "[a]");
        x.type(0);
        bytes(x, "(Num,Bool -> Bool)");
        x.binder(11);
        bytes(x, "(Num,Bool -> Bool)");
        x.type(1);
        bytes(x, "Num");
        Check.end();
    }

    private static void bytes(ConflictPlaces x, String want) {
        for (int i = 0; i < want.length(); i++) {
            Check.due("out(" + i + ") of " + want, x.out(i), want.charAt(i));
        }
        int[] none = {-1, want.length(), want.length() + 1, 299, 300, 301, Integer.MIN_VALUE, Integer.MAX_VALUE};
        for (int i : none) {
            Check.due("out(" + i + ") of " + want, x.out(i), Check.NONE);
        }
    }

    private static void refusalsAndOtherCalls(ConflictPlaces x) {
        x.type(0);
        x.type(-1);
        x.binder(11);
        x.binder(10);
        x.without(0, 0);
        x.without(99, 0);
        x.mended(99, 11);
        x.mended(0, 99);
        x.search(2000);
        x.set(0, 0);
        x.less(0, 0);
        x.conflict(0, 1);
        x.changes();
        x.change(0, 0);
        x.fits();
        x.feed(1, 'z');
        x.told(0);
        x.node(0, 0);
        x.rule(0);
        bytes(x, "[a]");
        x.read();
        bytes(x, "[a]");
    }
}
