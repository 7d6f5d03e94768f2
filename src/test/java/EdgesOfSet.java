/** Promises 10 and 11. */
final class EdgesOfSet {
    private static final String RULE_OF_SET = "The i-th rule of a SET, rising; i = -1: how many it has.";
    /** Two SETS: rules 0 4 7 8 10, and rules 15 17. */
    private static final String TWO = "f x = x + 1; g = f 2 \"a\"; h = 1 + true";
    private static final int[] NONE_OF_TWO = {-1, 2, 3, 26, 160, Integer.MIN_VALUE, Integer.MAX_VALUE};

    private EdgesOfSet() {
    }

    private static ConflictPlaces searched(String text) {
        ConflictPlaces x = Check.of(text);
        x.search(2000);
        return x;
    }

    @Sentence(promise = 10, says = RULE_OF_SET)
    static void firstLastAndHowMany() {
        ConflictPlaces x = searched(TWO);
        Check.due("set(0, -1)", x.set(0, -1), 5);
        Check.due("set(0, 0)", x.set(0, 0), 0);
        Check.due("set(0, 4)", x.set(0, 4), 10);
        Check.due("set(1, -1)", x.set(1, -1), 2);
        Check.due("set(1, 0)", x.set(1, 0), 15);
        Check.due("set(1, 1)", x.set(1, 1), 17);
    }

    /** 1 + id id .. id "": that the right one is Num, 38 times id, 38 CALLS, and the TEXT. */
    @Sentence(promise = 10, says = RULE_OF_SET)
    static void largeSet() {
        ConflictPlaces x = searched("f=1+" + Check.times("id ", 38) + "\"\"");
        Check.due("told(3)", x.told(3), 82);
        Check.due("set(0, -1)", x.set(0, -1), 78);
        Check.due("set(0, 0)", x.set(0, 0), 3);
        for (int i = 1; i < 78; i++) {
            Check.due("set(0, " + i + ")", x.set(0, i), i + 4);
        }
        Check.due("set(0, 78)", x.set(0, 78), Check.BAD);
    }

    @Sentence(promise = 10, says = RULE_OF_SET)
    static void smallestSetAndLastSet() {
        ConflictPlaces x = searched("f=[1+\"\"" + Check.times(",1+\"\"", 25) + "]");
        Check.due("search(2000)", x.search(2000), 26);
        Check.due("first set", Check.setOf(x, 0), "5 7");
        Check.due("last set", Check.setOf(x, 25), "155 157");
        Check.due("set(26, -1)", x.set(26, -1), Check.BAD);
    }

    @Sentence(promise = 10, says = "BAD: no such SET, no such i.")
    static void noSuchSet() {
        ConflictPlaces x = searched(TWO);
        for (int set : NONE_OF_TWO) {
            Check.due("set(" + set + ", -1)", x.set(set, -1), Check.BAD);
            Check.due("set(" + set + ", 0)", x.set(set, 0), Check.BAD);
        }
        Check.due("set(-9, 0)", x.set(-9, 0), Check.BAD);
        Check.due("set(-9, -1)", x.set(-9, -1), Check.BAD);
        Check.due("set(0, -1) without a text", new ConflictPlaces().set(0, -1), Check.BAD);
        Check.due("set(0, -1) of a text that fits", searched("f=1").set(0, -1), Check.BAD);
    }

    /** A SET is there when its last rule is asked of, not before. */
    @Sentence(promise = 10, says = "BAD: no such SET, no such i.")
    static void setThatIsNotFoundYet() {
        ConflictPlaces x = Check.of(TWO);
        Check.due("set(0, -1) before any WORK", x.set(0, -1), Check.BAD);
        x.search(18);
        Check.due("set(0, -1) before the last WORK", x.set(0, -1), Check.BAD);
        Check.due("set(0, 0) before the last WORK", x.set(0, 0), Check.BAD);
        x.search(1);
        Check.due("set(0, -1)", x.set(0, -1), 5);
        x.search(13);
        Check.due("set(1, -1) before the last WORK", x.set(1, -1), Check.BAD);
        x.search(1);
        Check.due("set(1, -1)", x.set(1, -1), 2);
    }

    @Sentence(promise = 10, says = "BAD: no such SET, no such i.")
    static void noSuchI() {
        ConflictPlaces x = searched(TWO);
        int[] wrong = {-2, -3, -9, 5, 6, 160, Integer.MIN_VALUE, Integer.MAX_VALUE};
        for (int i : wrong) {
            Check.due("set(0, " + i + ")", x.set(0, i), Check.BAD);
        }
        Check.due("set(1, 2)", x.set(1, 2), Check.BAD);
        Check.due("set(1, -2)", x.set(1, -2), Check.BAD);
    }

    @Sentence(promise = 11, says = "Whether a SET without its i-th rule CONFLICTS: 1, 0.")
    static void firstAndLastRule() {
        ConflictPlaces x = searched(TWO);
        for (int i = 0; i < 5; i++) {
            Check.due("less(0, " + i + ")", x.less(0, i), 0);
        }
        Check.due("less(1, 0)", x.less(1, 0), 0);
        Check.due("less(1, 1)", x.less(1, 1), 0);
        Check.due("the SET stays", Check.setOf(x, 0), "0 4 7 8 10");
        Check.due("told(4)", x.told(4), 34);
    }

    @Sentence(promise = 11, says = "BAD.")
    static void noSuchSetToLeaveOutOf() {
        ConflictPlaces x = searched(TWO);
        for (int set : NONE_OF_TWO) {
            Check.due("less(" + set + ", 0)", x.less(set, 0), Check.BAD);
        }
        Check.due("less(-9, 0)", x.less(-9, 0), Check.BAD);
        ConflictPlaces half = Check.of(TWO);
        half.search(18);
        Check.due("less(0, 0) before it is found", half.less(0, 0), Check.BAD);
        Check.due("less(0, 0) without a text", new ConflictPlaces().less(0, 0), Check.BAD);
    }

    /** That of -1 is how many set() tells, but here it is no rule. */
    @Sentence(promise = 11, says = "BAD.")
    static void noSuchRuleToLeaveOut() {
        ConflictPlaces x = searched(TWO);
        int[] wrong = {-1, -2, -9, 5, 6, 160, Integer.MIN_VALUE, Integer.MAX_VALUE};
        for (int i : wrong) {
            Check.due("less(0, " + i + ")", x.less(0, i), Check.BAD);
        }
        Check.due("less(1, 2)", x.less(1, 2), Check.BAD);
        Check.due("less(1, -1)", x.less(1, -1), Check.BAD);
    }
}
