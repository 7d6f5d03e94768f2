/** Promise 14. */
final class EdgesOfWithout {
    /** Its rules are 0 to 21: the next DECL's is 22. */
    private static final String LONG = "a=((1,1),1);b=(a,a);c=(b,b);d=(c,c);e=(d,d);";

    private EdgesOfWithout() {
    }

    private static void due(ConflictPlaces x, int rule, int node, String want) {
        Check.due("without(" + rule + ", " + node + ")", Check.written(x, x.without(rule, node)), want);
    }

    @Sentence(promise = 14, says = "Likewise of a node, by all rules but one.")
    static void firstAndLastRule() {
        ConflictPlaces x = Check.of("f=f 1");
        due(x, 0, 0, "Num -> a");
        due(x, 3, 2, "-3");
        // Both the first and the last one of two that conflict can be left out.
        ConflictPlaces two = Check.of("f x=f");
        due(two, 0, 0, "a");
        due(two, 1, 0, "a");
        ConflictPlaces most = Check.of("f=[1" + Check.times(",1", 77) + ",\"\"]");
        due(most, 159, 79, "Num");
        due(most, 159, 0, "[Num]");
        due(most, 158, 79, "Text");
        due(most, 158, 0, "[Num]");
        due(most, 0, 0, "-3");
    }

    @Sentence(promise = 14, says = "Likewise of a node, by all rules but one.")
    static void firstAndLastNodeOfTextThatFits() {
        ConflictPlaces x = Check.of("f=[1,2]");
        due(x, 0, 0, "[Num]");
        due(x, 1, 0, "a");
        due(x, 5, 2, "Num");
        due(x, 4, 2, "Num");
    }

    @Sentence(promise = 14, says = "BAD.")
    static void noSuchRule() {
        ConflictPlaces x = Check.of("f=1+\"\"");
        due(x, 5, 2, "Num");
        int[] wrong = {-1, 6, 7, 159, 160, 168, Integer.MIN_VALUE, Integer.MAX_VALUE};
        for (int rule : wrong) {
            Check.due("without(" + rule + ", 0)", x.without(rule, 0), Check.BAD);
        }
        Check.due("THE OUT stays", Check.out(x), "Num");
        Check.due("without(0, 0) without a text", new ConflictPlaces().without(0, 0), Check.BAD);
        ConflictPlaces fitting = Check.of("f=1");
        Check.due("without(-1, 0): not of all rules", fitting.without(-1, 0), Check.BAD);
        Check.due("without(2, 0): not of all rules", fitting.without(2, 0), Check.BAD);
    }

    @Sentence(promise = 14, says = "BAD.")
    static void noSuchNode() {
        ConflictPlaces x = Check.of("f=1+\"\"");
        due(x, 3, 2, "Text");
        int[] wrong = {-1, 3, 4, 79, 80, 104, Integer.MIN_VALUE, Integer.MAX_VALUE};
        for (int node : wrong) {
            Check.due("without(3, " + node + ")", x.without(3, node), Check.BAD);
            Check.due("without(0, " + node + "): ahead of NO", x.without(0, node), Check.BAD);
            Check.due("without(6, " + node + ")", x.without(6, node), Check.BAD);
        }
        Check.due("THE OUT stays", Check.out(x), "Text");
    }

    @Sentence(promise = 14, says = "NO: these CONFLICT.")
    static void othersConflict() {
        ConflictPlaces x = Check.of("f=1+\"\"");
        due(x, 5, 0, "Num");
        for (int node = 0; node < 3; node++) {
            Check.due("without(0, " + node + ")", x.without(0, node), Check.NO);
            Check.due("without(1, " + node + ")", x.without(1, node), Check.NO);
            Check.due("without(2, " + node + ")", x.without(2, node), Check.NO);
            Check.due("without(4, " + node + ")", x.without(4, node), Check.NO);
        }
        Check.due("THE OUT stays", Check.out(x), "Num");
        // With two SETS no one rule is enough.
        ConflictPlaces two = Check.of("f=1+\"\";g=1+\"\"");
        for (int rule = 0; rule < 12; rule++) {
            Check.due("without(" + rule + ", 0) of two", two.without(rule, 0), Check.NO);
        }
    }

    @Sentence(promise = 14, says = "FULL.")
    static void threeHundredAndOneMore() {
        ConflictPlaces most = Check.of(LONG + "f=[[[[(e,\"\")]]]]");
        Check.due("rule(22)", most.rule(22), LONG.length());
        Check.due("a type of 300", most.without(22, 17), 300);
        ConflictPlaces more = Check.of(LONG + "f=[[[[[(e,1)]]]]]");
        Check.due("a type of 299", more.without(22, 18), 299);
        Check.due("a type of 301", more.without(22, 17), Check.FULL);
        // Another object tells what stood there: one has not enough calls to tell it twice.
        ConflictPlaces other = Check.of(LONG + "f=[[[[[(e,1)]]]]]");
        Check.due("THE OUT stays", Check.out(more), Check.written(other, other.without(22, 18)));
        // Without the number's own rule it is an open type: 299 of 301.
        Check.due("the last rule", more.without(more.told(3) - 1, 17), 299);
    }
}
