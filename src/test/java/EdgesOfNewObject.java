/** Promise 1. */
final class EdgesOfNewObject {
    private static final String NEW = "No text; THE TAPE and THE OUT are empty.";

    private EdgesOfNewObject() {
    }

    @Sentence(promise = 1, says = NEW)
    static void noText() {
        ConflictPlaces x = new ConflictPlaces();
        for (int what = 0; what < 7; what++) {
            Check.due("told(" + what + ")", x.told(what), 0);
        }
        Check.due("fits()", x.fits(), Check.STATE);
        Check.due("search(1)", x.search(1), Check.STATE);
        Check.due("changes()", x.changes(), Check.STATE);
    }

    /** What has a number is not there, even the first one. */
    @Sentence(promise = 1, says = NEW)
    static void nothingOfText() {
        ConflictPlaces x = new ConflictPlaces();
        Check.due("node(0, 0)", x.node(0, 0), Check.BAD);
        Check.due("rule(0)", x.rule(0), Check.BAD);
        Check.due("conflict(0, 0)", x.conflict(0, 0), Check.BAD);
        Check.due("set(0, -1)", x.set(0, -1), Check.BAD);
        Check.due("less(0, 0)", x.less(0, 0), Check.BAD);
        Check.due("type(0)", x.type(0), Check.BAD);
        Check.due("binder(11)", x.binder(11), Check.BAD);
        Check.due("without(0, 0)", x.without(0, 0), Check.BAD);
        Check.due("change(0, 0)", x.change(0, 0), Check.BAD);
        Check.due("mended(0, 11)", x.mended(0, 11), Check.BAD);
    }

    @Sentence(promise = 1, says = NEW)
    static void emptyTape() {
        ConflictPlaces x = new ConflictPlaces();
        Check.due("told(7)", x.told(7), 0);
        Check.due("read() of an empty tape", x.read(), -10);
        ConflictPlaces y = new ConflictPlaces();
        for (int i = 1; i <= 30; i++) {
            Check.due("feed(8, 0)", y.feed(8, 0), 8 * i);
        }
    }

    @Sentence(promise = 1, says = NEW)
    static void emptyOut() {
        ConflictPlaces x = new ConflictPlaces();
        int[] places = {-1, 0, 1, 299, 300};
        for (int i : places) {
            Check.due("out(" + i + ")", x.out(i), Check.NONE);
        }
    }

    @Sentence(promise = 1, says = NEW)
    static void newOneBesideUsedOne() {
        ConflictPlaces used = Check.of("f = not 1");
        used.search(2000);
        used.mended(0, 11);
        Check.feed(used, "g = ");
        ConflictPlaces x = new ConflictPlaces();
        for (int what = 0; what < 8; what++) {
            Check.due("told(" + what + ")", x.told(what), 0);
        }
        Check.due("fits()", x.fits(), Check.STATE);
        Check.due("changes()", x.changes(), Check.STATE);
        Check.due("out(0)", x.out(0), Check.NONE);
        Check.due("told(7) of the used one", used.told(7), 4);
        Check.due("out(0) of the used one", used.out(0), 'N');
    }
}
