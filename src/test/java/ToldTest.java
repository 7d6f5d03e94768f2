/** Promise 4. */
public final class ToldTest {
    public static void main(String[] args) {
        ConflictPlaces x = new ConflictPlaces();
        Check.read(x, "f x = x + 1; g = f 2 \"a\"");
        counts(x, 2, 3, 8, 12);
        work(x);
        Check.feed(x, "h = \\y.y");
        Check.due("told(7)", x.told(7), 8);
        counts(x, 2, 3, 8, 12);
        x.read();
        counts(x, 1, 2, 2, 3);
        Check.due("told(4) behind read()", x.told(4), 0);
        Check.due("told(5) behind read()", x.told(5), 0);
        Check.due("told(6) behind read()", x.told(6), 0);
        Check.due("told(7) behind read()", x.told(7), 0);
        wrongNumbers(x);
        mostOfAll();
        Check.end();
    }

    private static void counts(ConflictPlaces x, int decls, int binders, int nodes, int rules) {
        Check.due("told(0)", x.told(0), decls);
        Check.due("told(1)", x.told(1), binders);
        Check.due("told(2)", x.told(2), nodes);
        Check.due("told(3)", x.told(3), rules);
    }

    private static void work(ConflictPlaces x) {
        Check.due("told(4)", x.told(4), 0);
        x.fits();
        x.conflict(0, 11);
        x.changes();
        x.without(0, 0);
        Check.due("told(4): askings of other calls are no WORK", x.told(4), 0);
        x.search(12);
        Check.due("told(4)", x.told(4), 12);
        Check.due("told(5)", x.told(5), 0);
        x.search(1);
        Check.due("told(4)", x.told(4), 13);
        Check.due("told(5)", x.told(5), 1);
        Check.due("told(6): it is not yet asked", x.told(6), 0);
        x.search(1);
        Check.due("told(4)", x.told(4), 14);
        Check.due("told(5)", x.told(5), 1);
        Check.due("told(6)", x.told(6), 1);
        x.search(2000);
        x.less(0, 0);
        Check.due("told(4): nothing is left to do", x.told(4), 14);
    }

    private static void wrongNumbers(ConflictPlaces x) {
        int[] wrong = {-1, 8, 9, 100, Integer.MIN_VALUE, Integer.MAX_VALUE};
        for (int what : wrong) {
            Check.due("told(" + what + ")", x.told(what), Check.BAD);
        }
    }

    private static void mostOfAll() {
        ConflictPlaces x = Check.of("a b c d e=1;f b c d e=1;g b c d e=1;h b c d e=1;i=[1" + Check.times(",1", 73) + "];j=1");
        counts(x, 6, 22, 80, 160);
    }
}
