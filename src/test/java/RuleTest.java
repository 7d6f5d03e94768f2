/** Promise 6: at which places rules stand, and in which order. */
public final class RuleTest {
    public static void main(String[] args) {
        due("f x = x + 1; g = f 2 \"a\"", "0 6 8 8 8 10 13 17 19 19 21 21");
        due("f = \\x.x", "0 4 7");
        due("f = if 1 then 2 else 3", "0 4 7 9 14 16 21");
        due("f = (1, 2)", "0 4 5 8");
        due("f = []", "0 4");
        due("f = [1, 2 , 3]", "0 4 4 5 6 8 10 12");
        due("f = [[1], []]", "0 4 4 5 5 6 8 10");
        due("f = id [1]", "0 4 7 7 7 8");
        due("f = 1 && 2", "0 4 6 6 6 9");
        due("f = 1 == 2", "0 4 6 6 9");
        due("f = 1 < 2", "0 4 6 6 6 8");
        due("f = 1 : 2", "0 4 6 6 8");
        due("f = 1 ++ 2", "0 4 6 6 6 9");
        due("  f = [if 1 then [2,3] else [],4]", "2 6 6 7 10 12 17 17 18 19 20 23 28 30 31");
        whichComesFirst();
        wrongNumbers();
        Check.end();
    }

    private static void due(String text, String want) {
        ConflictPlaces x = Check.of(text);
        StringBuilder b = new StringBuilder();
        for (int r = 0; r < x.told(3); r++) {
            b.append(r == 0 ? "" : " ").append(x.rule(r));
        }
        Check.due("rules of " + text, b.toString(), want);
    }

    /** Of rules at one token, the order shows in what a part of them says. */
    private static void whichComesFirst() {
        // && : left Bool (2), right Bool (3), node Bool (4)
        conflict("f = 1 && 2", 1, 2, 1);
        conflict("f = 1 && 2", 1, 1, 0);
        conflict("f = 1 && 2", 3, 5, 1);
        conflict("f = 1 && 2", 4, 5, 0);
        conflict("f = (1 && 2) + 3", 4, 6, 1);
        conflict("f = (1 && 2) + 3", 5, 6, 0);
        // == : left as right (2), node Bool (3)
        conflict("f = 1 == \"\"", 1, 4, 1);
        conflict("f = 1 == \"\"", 3, 4, 0);
        conflict("f = (1 == 1) + 3", 3, 5, 1);
        conflict("f = (1 == 1) + 3", 4, 5, 0);
        // < : left Num, right Num, node Bool
        conflict("f = \"\" < \"\"", 1, 2, 1);
        conflict("f = \"\" < \"\"", 3, 5, 1);
        conflict("f = \"\" < \"\"", 4, 5, 0);
        // : the right one is [left] (2), the node is as the right one (3)
        conflict("f = 1 : 2", 2, 4, 1);
        conflict("f = 1 : 2", 3, 4, 0);
        conflict("f = (1 : []) : [2]", 3, 9, 1);
        conflict("f = (1 : []) : [2]", 4, 9, 0);
        // ++ : the left one is [u] (2), the right one as the left one (3), the node too (4)
        conflict("f = 1 ++ 2", 1, 2, 1);
        conflict("f = 1 ++ 2", 2, 5, 1);
        conflict("f = 1 ++ 2", 3, 5, 0);
        // [ : the node is [u] (1), then its first E is u (2)
        conflict("f = [1, \"\"]", 2, 5, 1);
        conflict("f = [1, \"\"]", 3, 5, 0);
        // A CALL's rule comes ahead of that of its argument: 1 is called (1, 2), it is called with 2 (3)
        conflict("f = 1 2", 1, 2, 1);
        conflict("f = 1 2", 2, 3, 0);
    }

    private static void conflict(String text, int from, int to, int want) {
        Check.due("conflict(" + from + ", " + to + ") of " + text, Check.of(text).conflict(from, to), want);
    }

    private static void wrongNumbers() {
        ConflictPlaces x = Check.of("f = 1");
        int[] wrong = {-1, 2, 3, 160, Integer.MIN_VALUE, Integer.MAX_VALUE};
        for (int r : wrong) {
            Check.due("rule(" + r + ")", x.rule(r), Check.BAD);
        }
    }
}
