/** Promises 10 and 11: the rules of a SET, and that it is a least one. */
public final class SetTest {
    public static void main(String[] args) {
        ConflictPlaces x = Check.of("f x = x + 1; g = f 2 \"a\"; h = 1 + true");
        Check.due("set(0, -1) before the search", x.set(0, -1), Check.BAD);
        Check.due("less(0, 0) before the search", x.less(0, 0), Check.BAD);
        // 18 rules: the first SET is found by 1 + 18 WORK.
        Check.due("search(18)", x.search(18), 0);
        Check.due("set(0, -1)", x.set(0, -1), Check.BAD);
        Check.due("search(1)", x.search(1), 1);
        Check.due("set(1, -1)", x.set(1, -1), Check.BAD);
        Check.due("search(2000)", x.search(2000), 2);
        members(x);
        leastSets(x);
        wrongNumbers(x);
        setsHaveNothingInCommon();
        Check.end();
    }

    private static void members(ConflictPlaces x) {
        // Left out from the last one on, what stands first is kept.
        Check.due("set(0, -1)", x.set(0, -1), 5);
        Check.due("first set", Check.setOf(x, 0), "0 4 7 8 10");
        Check.due("set(1, -1)", x.set(1, -1), 2);
        Check.due("second set", Check.setOf(x, 1), "15 17");
    }

    private static void leastSets(ConflictPlaces x) {
        for (int s = 0; s < 2; s++) {
            for (int i = 0; i < x.set(s, -1); i++) {
                Check.due("less(" + s + ", " + i + ")", x.less(s, i), 0);
            }
        }
        Check.due("told(4): less is no WORK", x.told(4), (1 + 18) + (1 + 13) + 1);
        Check.due("set stays", Check.setOf(x, 0), "0 4 7 8 10");
    }

    private static void wrongNumbers(ConflictPlaces x) {
        int[] wrong = {-1, 2, 3, Integer.MIN_VALUE, Integer.MAX_VALUE};
        for (int s : wrong) {
            Check.due("set(" + s + ", 0)", x.set(s, 0), Check.BAD);
            Check.due("set(" + s + ", -1)", x.set(s, -1), Check.BAD);
            Check.due("less(" + s + ", 0)", x.less(s, 0), Check.BAD);
        }
        int[] none = {-9, 5, 6, 160, Integer.MIN_VALUE, Integer.MAX_VALUE};
        for (int i : none) {
            Check.due("set(0, " + i + ")", x.set(0, i), Check.BAD);
            Check.due("less(0, " + i + ")", x.less(0, i), Check.BAD);
        }
        Check.due("set(0, -2)", x.set(0, -2), Check.BAD);
        Check.due("less(0, -1)", x.less(0, -1), Check.BAD);
        Check.due("set(1, 2)", x.set(1, 2), Check.BAD);
        Check.due("less(1, 2)", x.less(1, 2), Check.BAD);
        Check.due("set(0, 4)", x.set(0, 4), 10);
        Check.due("set(1, 1)", x.set(1, 1), 17);
    }

    /** A NAME that is wrong in two ways: only the first of them is a SET, if both need one rule. */
    private static void setsHaveNothingInCommon() {
        ConflictPlaces x = Check.of("f = [1, true, \"\"]");
        // 1 and true conflict by rules 2 3 4 5; true and the text too, but by 4 and 5 again.
        Check.due("search(2000)", x.search(2000), 1);
        Check.due("set", Check.setOf(x, 0), "2 3 4 5");
        Check.due("told(6)", x.told(6), 1);
        ConflictPlaces y = Check.of("f = 1 && 2; g = 1 ++ 2");
        Check.due("search(2000)", y.search(2000), 3);
        Check.due("set 0", Check.setOf(y, 0), "1 2");
        Check.due("set 1", Check.setOf(y, 1), "3 5");
        Check.due("set 2", Check.setOf(y, 2), "7 8");
        Check.due("set(3, -1)", y.set(3, -1), Check.BAD);
    }
}
