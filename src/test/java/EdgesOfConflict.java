/** Promise 8. */
final class EdgesOfConflict {
    private static final String CONFLICT = "Whether rules from one to another one CONFLICT by themselves: 1, 0.";

    private EdgesOfConflict() {
    }

    @Sentence(promise = 8, says = CONFLICT)
    static void oneRule() {
        ConflictPlaces x = Check.of("f x = x x + \"\"");
        for (int r = 0; r < x.told(3); r++) {
            Check.due("conflict(" + r + ", " + r + ")", x.conflict(r, r), 0);
        }
    }

    @Sentence(promise = 8, says = CONFLICT)
    static void allRules() {
        Check.due("all of f = 1", Check.of("f = 1").conflict(0, 1), 0);
        ConflictPlaces x = Check.of("f x = f");
        Check.due("all of f x = f", x.conflict(0, 1), 1);
        ConflictPlaces most = Check.of("f=[1" + Check.times(",1", 77) + ",\"\"]");
        Check.due("all of 160", most.conflict(0, 159), 1);
        // 2 and 3 the first E, 158 and 159 the last one; without either end they do not conflict.
        Check.due("conflict(2, 159)", most.conflict(2, 159), 1);
        Check.due("conflict(0, 158)", most.conflict(0, 158), 0);
        Check.due("conflict(156, 159)", most.conflict(156, 159), 1);
        Check.due("conflict(157, 159)", most.conflict(157, 159), 0);
    }

    /** The first and the last one count: f = 1 + "" has 3 right Num, 4 node Num, 5 the text. */
    @Sentence(promise = 8, says = CONFLICT)
    static void bothEndsCount() {
        ConflictPlaces x = Check.of("f = 1 + \"\"");
        Check.due("conflict(3, 5)", x.conflict(3, 5), 1);
        Check.due("conflict(4, 5)", x.conflict(4, 5), 0);
        Check.due("conflict(3, 4)", x.conflict(3, 4), 0);
        Check.due("conflict(0, 4)", x.conflict(0, 4), 0);
        Check.due("conflict(0, 5)", x.conflict(0, 5), 1);
    }

    @Sentence(promise = 8, says = "BAD: no such rules, to is below from.")
    static void noSuchRules() {
        ConflictPlaces x = Check.of("f = 1 + \"\"");
        int[] wrong = {-1, 6, 7, 159, 160, 168, Integer.MIN_VALUE, Integer.MAX_VALUE};
        for (int rule : wrong) {
            Check.due("conflict(" + rule + ", 5)", x.conflict(rule, 5), Check.BAD);
            Check.due("conflict(0, " + rule + ")", x.conflict(0, rule), Check.BAD);
            Check.due("conflict(" + rule + ", " + rule + ")", x.conflict(rule, rule), Check.BAD);
        }
        Check.due("conflict(MIN, MAX)", x.conflict(Integer.MIN_VALUE, Integer.MAX_VALUE), Check.BAD);
        Check.due("conflict(5, 5)", x.conflict(5, 5), 0);
        Check.due("conflict(0, 0) without a text", new ConflictPlaces().conflict(0, 0), Check.BAD);
    }

    @Sentence(promise = 8, says = "BAD: no such rules, to is below from.")
    static void toIsBelowFrom() {
        ConflictPlaces x = Check.of("f = 1 + \"\"");
        Check.due("conflict(1, 0)", x.conflict(1, 0), Check.BAD);
        Check.due("conflict(5, 4)", x.conflict(5, 4), Check.BAD);
        Check.due("conflict(5, 0)", x.conflict(5, 0), Check.BAD);
        Check.due("conflict(0, 0)", x.conflict(0, 0), 0);
        Check.due("conflict(4, 5)", x.conflict(4, 5), 0);
    }
}
