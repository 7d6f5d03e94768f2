/** Promise 9. */
final class EdgesOfSearch {
    private static final String UP_TO = "Up to so much WORK is done: how many SETS are found.";
    private static final String ASKING = "Each asking whether some rules conflict is one WORK: first of all that are in no"
        + " SET, then of each rule.";
    /** 158 rules and 26 SETS of two: 3485 WORK in all, 1911 of it for 13 SETS, 2044 for 14. */
    private static final String MUCH_WORK = "f=[1+\"\"" + ",1+\"\"".repeat(25) + "]";

    private EdgesOfSearch() {
    }

    @Sentence(promise = 9, says = UP_TO)
    static void leastWork() {
        ConflictPlaces x = Check.of("f = 1 + \"\"");
        for (int work = 1; work <= 8; work++) {
            Check.due("search(1), WORK " + work, x.search(1), work < 7 ? 0 : 1);
            Check.due("told(4)", x.told(4), work);
        }
    }

    @Sentence(promise = 9, says = UP_TO)
    static void mostWork() {
        ConflictPlaces x = Check.of(MUCH_WORK);
        Check.due("told(3)", x.told(3), 158);
        Check.due("search(2000)", x.search(2000), 13);
        Check.due("told(4)", x.told(4), 2000);
        Check.due("told(6)", x.told(6), 0);
        Check.due("search(43)", x.search(43), 13);
        Check.due("search(1)", x.search(1), 14);
        Check.due("search(2000)", x.search(2000), 26);
        Check.due("told(4)", x.told(4), 3485);
        Check.due("told(6)", x.told(6), 1);
    }

    /** Less is done, if all SETS are found by less: with the very last piece, and behind it. */
    @Sentence(promise = 9, says = UP_TO)
    static void moreThanThereIs() {
        int[] pieces = {7, 8, 9, 2000};
        for (int work : pieces) {
            ConflictPlaces x = Check.of("f = 1 + \"\"");
            Check.due("search(" + work + ")", x.search(work), 1);
            Check.due("told(4)", x.told(4), Math.min(work, 8));
            Check.due("told(6)", x.told(6), work < 8 ? 0 : 1);
            Check.due("search(2000)", x.search(2000), 1);
            Check.due("told(4)", x.told(4), 8);
            Check.due("search(1)", x.search(1), 1);
            Check.due("told(4)", x.told(4), 8);
        }
    }

    @Sentence(promise = 9, says = ASKING)
    static void textThatFits() {
        ConflictPlaces x = Check.of("f = 1");
        Check.due("search(1)", x.search(1), 0);
        Check.due("told(6)", x.told(6), 1);
        Check.due("search(2000)", x.search(2000), 0);
        Check.due("told(4)", x.told(4), 1);
    }

    /** A SET of all rules: none is left for the next one, which is asked of all the same. */
    @Sentence(promise = 9, says = ASKING)
    static void noRuleIsLeft() {
        ConflictPlaces x = Check.of("f x = f");
        Check.due("search(2)", x.search(2), 0);
        Check.due("search(1)", x.search(1), 1);
        Check.due("set", Check.setOf(x, 0), "0 1");
        Check.due("told(6)", x.told(6), 0);
        Check.due("search(1)", x.search(1), 1);
        Check.due("told(6)", x.told(6), 1);
        Check.due("told(4)", x.told(4), 4);
    }

    /** Rules that are in a SET cost no WORK any more. */
    @Sentence(promise = 9, says = ASKING)
    static void rulesOfSetsBefore() {
        ConflictPlaces x = Check.of("f = (1 + \"\", 2 + \"\")");
        Check.due("search(12)", x.search(12), 0);
        Check.due("search(1)", x.search(1), 1);
        Check.due("search(10)", x.search(10), 1);
        Check.due("search(1)", x.search(1), 2);
        Check.due("told(6)", x.told(6), 0);
        Check.due("search(1)", x.search(1), 2);
        Check.due("told(6)", x.told(6), 1);
    }

    /** The first and the last rule are tried like the others: each of them can stay, each can go. */
    @Sentence(promise = 9, says = "of all rules, one by one from the last one on, each is left out, if those that are left"
        + " without it conflict yet.")
    static void firstAndLastRule() {
        // f is a function, the right one is Num, and it is f
        ConflictPlaces stay = Check.of("f x=x;g=1+f");
        stay.search(2000);
        Check.due("told(3)", stay.told(3), 8);
        Check.due("a SET with the first and the last rule", Check.setOf(stay, 0), "0 5 7");
        ConflictPlaces go = Check.of("f=1 2");
        go.search(2000);
        Check.due("a SET without the first and the last rule", Check.setOf(go, 0), "1 2");
        // Of the last two that are each enough, the last one goes.
        ConflictPlaces one = Check.of("f=[\"\",1,1]");
        one.search(2000);
        Check.due("a SET without the last one", Check.setOf(one, 0), "2 3 4 5");
    }

    @Sentence(promise = 9, says = "BAD: work is not 1 .. 2000.")
    static void lessThanOneOrMoreThan2000() {
        ConflictPlaces x = Check.of("f = 1 + \"\"");
        int[] wrong = {0, -1, 2001, 4000, Integer.MIN_VALUE, Integer.MAX_VALUE};
        for (int work : wrong) {
            Check.due("search(" + work + ")", x.search(work), Check.BAD);
            Check.due("told(4)", x.told(4), 0);
        }
        x.search(2000);
        for (int work : wrong) {
            Check.due("search(" + work + ") when all are found", x.search(work), Check.BAD);
        }
    }

    @Sentence(promise = 9, says = "STATE: there is no text.")
    static void noText() {
        ConflictPlaces x = new ConflictPlaces();
        Check.due("search(1)", x.search(1), Check.STATE);
        Check.due("search(2000)", x.search(2000), Check.STATE);
        Check.due("told(4)", x.told(4), 0);
        Check.due("told(6)", x.told(6), 0);
        Check.read(x, "f = x");
        Check.due("search(1) behind a fault", x.search(1), Check.STATE);
        Check.read(x, "f = 1");
        Check.due("search(1) with a text", x.search(1), 0);
        Check.read(x, "f = x");
        Check.due("search(1) of the text before", x.search(1), 0);
    }
}
