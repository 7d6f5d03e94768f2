/** Promise 14. */
public final class WithoutTest {
    public static void main(String[] args) {
        ConflictPlaces x = Check.of("f = 1 + \"a\"");
        // 0 f, 1 the number, 2 left Num, 3 right Num, 4 node Num, 5 the text
        due(x, 3, 2, "Text");
        due(x, 5, 2, "Num");
        due(x, 3, 1, "Num");
        due(x, 5, 0, "Num");
        due(x, 0, 0, "-3");
        due(x, 1, 0, "-3");
        due(x, 4, 2, "-3");
        Check.due("out stays", Check.out(x), "Num");
        fittingText();
        openParts();
        signs();
        longTypes();
        wrongNumbers(x);
        Check.end();
    }

    private static void due(ConflictPlaces x, int rule, int node, String want) {
        Check.due("without(" + rule + ", " + node + ")", Check.written(x, x.without(rule, node)), want);
    }

    private static void fittingText() {
        ConflictPlaces x = Check.of("f = [1, 2]");
        // 0 f, 1 [u], 2 the first is u, 3 a number, 4 the next is u, 5 a number
        due(x, 0, 0, "[Num]");
        due(x, 1, 0, "a");
        due(x, 2, 0, "[Num]");
        due(x, 2, 1, "Num");
        due(x, 3, 1, "Num");
        due(x, 4, 2, "Num");
        due(x, 5, 2, "Num");
    }

    private static void openParts() {
        ConflictPlaces x = Check.of("f g = g 1 true; h = f (\\x.\\y.x + y)");
        // h calls f with Num -> Num -> Num, but f calls g with 1 and true.
        Check.due("fits()", x.fits(), 0);
        Check.due("rule(5)", x.rule(5), 10);
        due(x, 5, 0, "Num -> Num -> Num");
        due(x, 5, 4, "Num");
        ConflictPlaces y = Check.of("f x = x x");
        // 0 f, 1 the called x, 2 the CALL, 3 the argument x
        due(y, 1, 0, "a -> b");
        due(y, 3, 0, "a -> b");
        due(y, 2, 1, "a");
        due(y, 0, 0, "-3");
    }

    /** Which of its operands a sign's node is as. */
    private static void signs() {
        due(Check.of("f x = x ++ 1"), 3, 1, "[a]");
        due(Check.of("f x = x ++ 1"), 2, 1, "Num");
        due(Check.of("f x = x : 1"), 2, 1, "Num");
        due(Check.of("f x = x : 1"), 4, 1, "[a]");
        due(Check.of("f = if true then 1 else \"\""), 3, 0, "Text");
        due(Check.of("f = if true then 1 else \"\""), 5, 0, "Num");
    }

    private static void longTypes() {
        ConflictPlaces x = Check.of("a=((1,1),1);b=(a,a);c=(b,b);d=(c,c);e=(d,d);f=[[[[[(e,1)]]]]]");
        int rules = x.told(3);
        int whole = x.told(2) - 8;
        // Without the rule of f's own type the list is as it was; without the last one, 1 is open.
        due(x, rules - 14, whole, "-4");
        Check.due("out stays", x.out(0), Check.NONE);
        Check.due("without the last number", x.without(rules - 1, whole), 299);
        Check.due("out(292)", x.out(292), 'a');
    }

    private static void wrongNumbers(ConflictPlaces x) {
        int[] wrong = {-1, 6, 7, 160, Integer.MIN_VALUE, Integer.MAX_VALUE};
        for (int i : wrong) {
            Check.due("without(" + i + ", 0)", x.without(i, 0), Check.BAD);
            Check.due("without(3, " + i + ")", x.without(3, i), Check.BAD);
            Check.due("without(0, " + i + "): BAD is ahead of NO", x.without(0, i), Check.BAD);
        }
        Check.due("without(3, 3)", x.without(3, 3), Check.BAD);
        Check.due("without(5, 2)", x.without(5, 2), 3);
    }
}
