/** Promise 6. */
final class EdgesOfRule {
    private static final String PLACE = "The place at which a rule stands.";

    private EdgesOfRule() {
    }

    @Sentence(promise = 6, says = PLACE)
    static void firstAndLastPlace() {
        Check.due("the first byte", Check.of("f=1").rule(0), 0);
        ConflictPlaces x = Check.of("f=" + Check.times(" ", 237) + "1");
        Check.due("rule(0)", x.rule(0), 0);
        Check.due("the last byte", x.rule(1), 239);
        // The first byte of the tape can be a blank.
        Check.due("blanks ahead of it", Check.of(Check.times(" ", 237) + "f=1").rule(0), 237);
    }

    @Sentence(promise = 6, says = PLACE)
    static void firstAndLastRule() {
        ConflictPlaces x = Check.of("f=[1" + Check.times(",1", 78) + "]");
        Check.due("rule(0)", x.rule(0), 0);
        Check.due("rule(1)", x.rule(1), 2);
        Check.due("rule(2)", x.rule(2), 2);
        Check.due("rule(3)", x.rule(3), 3);
        Check.due("rule(158)", x.rule(158), 158);
        Check.due("rule(159)", x.rule(159), 159);
    }

    /** As many rules at one TOKEN as there can be: a CALL's, a list's, its first E's. */
    @Sentence(promise = 6, says = "RULES are numbered by the TOKENS at which they stand, of several at one in this order")
    static void mostRulesAtOneToken() {
        ConflictPlaces x = Check.of("f=id[1]");
        int[] places = {0, 2, 4, 4, 4, 5};
        for (int r = 0; r < places.length; r++) {
            Check.due("rule(" + r + ")", x.rule(r), places[r]);
        }
        // The CALL's first: the list is not called. Then the list's, then that of its E.
        Check.due("id without the CALL's rule", Check.written(x, x.without(2, 0)), "a -> a");
        Check.due("the list without its rule", Check.written(x, x.without(3, 2)), "a");
        Check.due("the list without its E's rule", Check.written(x, x.without(4, 2)), "[a]");
    }

    /** A list without any E has the one rule, a DECL without NAMES behind its own one, too. */
    @Sentence(promise = 6, says = "that of its first E is u (if it has any)")
    static void emptyList() {
        ConflictPlaces x = Check.of("f=[]");
        Check.due("told(3)", x.told(3), 2);
        Check.due("rule(1)", x.rule(1), 2);
        Check.due("rule(2)", x.rule(2), Check.BAD);
        Check.due("told(3) of [1]", Check.of("f=[1]").told(3), 4);
    }

    @Sentence(promise = 6, says = "BAD.")
    static void noSuchRule() {
        ConflictPlaces x = Check.of("f = 1");
        int[] wrong = {-1, 2, 3, 159, 160, 168, Integer.MIN_VALUE, Integer.MAX_VALUE};
        for (int rule : wrong) {
            Check.due("rule(" + rule + ")", x.rule(rule), Check.BAD);
        }
        Check.due("rule(1)", x.rule(1), 4);
        ConflictPlaces full = Check.of("f=[1" + Check.times(",1", 78) + "]");
        Check.due("rule(160) of 160", full.rule(160), Check.BAD);
        Check.due("rule(0) without a text", new ConflictPlaces().rule(0), Check.BAD);
        Check.read(full, "f = 1");
        Check.due("rule(2) behind a longer text", full.rule(2), Check.BAD);
    }
}
