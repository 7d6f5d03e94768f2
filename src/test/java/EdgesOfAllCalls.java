/** What binds all calls: how many there are, and refused ones. */
final class EdgesOfAllCalls {
    private static final String REFUSALS = "Of several refusals the first one here: BAD (a number is not as told, or there"
        + " is no such thing), STATE, NO, FULL; they change nothing (but read() THE TAPE).";
    /** A text that does not fit, the type of whose last DECL would be too long, too. */
    private static final String LONG_AND_WRONG =
        "a=((1,1),1);b=(a,a);c=(b,b);d=(c,c);e=(d,d);f=([[[[[(e,1)]]]]],1+\"\")";

    private EdgesOfAllCalls() {
    }

    @Sentence(promise = 0, says = "An object is used for at most 512 calls after it has been made")
    static void the512thCallIsAnsweredAsTheFirstOne() {
        ConflictPlaces x = new ConflictPlaces();
        // 73 times seven calls, and one more: 512.
        for (int i = 0; i < 73; i++) {
            // "f=not 1"
            Check.due("feed, round " + i, x.feed(7, 0x3120746f6e3d66L), 7);
            Check.due("read, round " + i, x.read(), 4);
            Check.due("search, round " + i, x.search(2000), 1);
            Check.due("told(4), round " + i, x.told(4), 6);
            Check.due("changes, round " + i, x.changes(), 3);
            Check.due("mended, round " + i, x.mended(2, 11), 12);
            Check.due("out, round " + i, x.out(11), 'l');
        }
        Check.due("the 512th call", x.set(0, -1), 3);
    }

    @Sentence(promise = 0, says = "An object is used for at most 512 calls after it has been made")
    static void all512CallsCanBeOfOneKind() {
        ConflictPlaces x = new ConflictPlaces();
        for (int i = 1; i <= 512; i++) {
            Check.due("feed " + i, x.feed(1, 'x'), i <= 240 ? i : Check.FULL);
        }
        ConflictPlaces y = new ConflictPlaces();
        for (int i = 1; i <= 512; i++) {
            Check.due("read " + i, y.read(), -10);
        }
    }

    @Sentence(promise = 0, says = REFUSALS)
    static void badIsAheadOfState() {
        ConflictPlaces x = new ConflictPlaces();
        Check.due("search(0) without a text", x.search(0), Check.BAD);
        Check.due("search(2001) without a text", x.search(2001), Check.BAD);
    }

    @Sentence(promise = 0, says = REFUSALS)
    static void badIsAheadOfNo() {
        ConflictPlaces x = Check.of("f = 1 + \"\"");
        Check.due("type(3)", x.type(3), Check.BAD);
        Check.due("type(2)", x.type(2), Check.NO);
        Check.due("binder(12)", x.binder(12), Check.BAD);
        Check.due("binder(11)", x.binder(11), Check.NO);
        Check.due("without(0, 3)", x.without(0, 3), Check.BAD);
        Check.due("without(6, 0)", x.without(6, 0), Check.BAD);
        Check.due("without(0, 0)", x.without(0, 0), Check.NO);
    }

    @Sentence(promise = 0, says = REFUSALS)
    static void badIsAheadOfFull() {
        ConflictPlaces x = new ConflictPlaces();
        Check.feed(x, Check.times(" ", 240));
        Check.due("feed(9, 0) on a full tape", x.feed(9, 0), Check.BAD);
        Check.due("feed(0, 0) on a full tape", x.feed(0, 0), Check.BAD);
        Check.due("feed(8, 0) on a full tape", x.feed(8, 0), Check.FULL);
    }

    @Sentence(promise = 0, says = REFUSALS)
    static void noIsAheadOfFull() {
        ConflictPlaces x = Check.of(LONG_AND_WRONG);
        Check.due("mended(0, 16): it would be too long", x.mended(0, 16), Check.FULL);
        Check.due("type(17)", x.type(17), Check.NO);
        Check.due("binder(16)", x.binder(16), Check.NO);
        Check.due("without(0, 17)", x.without(0, 17), Check.NO);
    }

    /** Every refusal there is, between two halves of a search: what is seen is as if there were none. */
    @Sentence(promise = 0, says = REFUSALS)
    static void refusalsChangeNothing() {
        ConflictPlaces x = halfSearched();
        ConflictPlaces undisturbed = halfSearched();
        refuseAll(x);
        Check.due("what is seen behind refusals", seen(x), seen(undisturbed));
        Check.due("the rest of the search", x.search(2000), undisturbed.search(2000));
        Check.due("what is seen behind the search", seen(x), seen(undisturbed));
    }

    private static ConflictPlaces halfSearched() {
        ConflictPlaces x = Check.of(LONG_AND_WRONG);
        Check.due("mended(0, 11)", x.mended(0, 11), 15);
        x.search(60);
        Check.feed(x, "g = 12;");
        return x;
    }

    private static void refuseAll(ConflictPlaces x) {
        due("feed(0, -1)", x.feed(0, -1), Check.BAD);
        due("feed(9, -1)", x.feed(9, -1), Check.BAD);
        due("told(8)", x.told(8), Check.BAD);
        due("node(99, 0)", x.node(99, 0), Check.BAD);
        due("node(0, 3)", x.node(0, 3), Check.BAD);
        due("rule(99)", x.rule(99), Check.BAD);
        due("conflict(1, 0)", x.conflict(1, 0), Check.BAD);
        due("search(0)", x.search(0), Check.BAD);
        due("search(2001)", x.search(2001), Check.BAD);
        due("set(9, 0)", x.set(9, 0), Check.BAD);
        due("set(0, -2)", x.set(0, -2), Check.BAD);
        due("less(9, 0)", x.less(9, 0), Check.BAD);
        due("less(0, -1)", x.less(0, -1), Check.BAD);
        due("type(99)", x.type(99), Check.BAD);
        due("type(0)", x.type(0), Check.NO);
        due("binder(10)", x.binder(10), Check.BAD);
        due("binder(11)", x.binder(11), Check.NO);
        due("without(99, 0)", x.without(99, 0), Check.BAD);
        due("without(0, 0)", x.without(0, 0), Check.NO);
        due("change(99, 0)", x.change(99, 0), Check.BAD);
        due("change(0, 4)", x.change(0, 4), Check.BAD);
        due("mended(99, 11)", x.mended(99, 11), Check.BAD);
        due("mended(0, 16)", x.mended(0, 16), Check.FULL);
        due("out(300)", x.out(300), Check.NONE);
    }

    private static void due(String call, int got, int want) {
        Check.due(call + " is refused", got, want);
    }

    private static String seen(ConflictPlaces x) {
        StringBuilder b = new StringBuilder();
        for (int what = 0; what < 8; what++) {
            b.append(x.told(what)).append(' ');
        }
        for (int set = 0; set < x.told(5); set++) {
            b.append("set ").append(Check.setOf(x, set)).append(' ');
        }
        return b.append(Check.offered(x)).append(' ').append(Check.out(x)).toString();
    }

    @Sentence(promise = 0, says = REFUSALS)
    static void refusalsLeaveNewObjectNew() {
        ConflictPlaces x = new ConflictPlaces();
        due("fits()", x.fits(), Check.STATE);
        due("search(1)", x.search(1), Check.STATE);
        due("changes()", x.changes(), Check.STATE);
        due("type(0)", x.type(0), Check.BAD);
        due("mended(0, 11)", x.mended(0, 11), Check.BAD);
        for (int what = 0; what < 8; what++) {
            Check.due("told(" + what + ")", x.told(what), 0);
        }
        Check.due("out(0)", x.out(0), Check.NONE);
        Check.due("read of f = 1", Check.read(x, "f = 1"), 2);
    }

    @Sentence(promise = 0, says = REFUSALS)
    static void refusedReadUsesUpTheTapeAlone() {
        ConflictPlaces x = halfSearched();
        ConflictPlaces undisturbed = halfSearched();
        // "g = 12;" is on the tape.
        Check.due("read()", x.read(), -17);
        Check.due("told(7)", x.told(7), 0);
        Check.feed(x, "g = 12;");
        Check.due("what is seen", seen(x), seen(undisturbed));
        Check.due("the rest of the search", x.search(2000), undisturbed.search(2000));
    }
}
