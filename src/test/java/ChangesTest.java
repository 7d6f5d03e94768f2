/** Promises 15 and 16: which changes are OFFERED, in which order. Each is sort,node,meaning,cost. */
public final class ChangesTest {
    public static void main(String[] args) {
        otherNames();
        hiddenNames();
        literals();
        swaps();
        signs();
        drops();
        wraps();
        order();
        howMany();
        wrongNumbers();
        Check.end();
    }

    private static void due(String text, String want) {
        Check.due("changes of " + text, Check.offered(Check.of(text)), want);
    }

    private static void otherNames() {
        due("f = not 1", "0,0,9,1 0,0,10,1 4,1,-9,3");
        // DECLS before and behind it, and what stands behind its own DECL's NAME.
        due("f x = x + 1; g y = f y && y", "0,3,2,1 0,3,9,1 0,3,13,1");
        due("a = 1; f x = a && x; b = true; c = 2",
            "0,1,0,1 0,1,1,1 0,1,13,1 0,1,14,1");
        // A \ NAME is meant within its E alone.
        due("f = (\\x.1 + true, \\y.y)", "0,4,12,1");
    }

    /** NAMES that another one hides at the place are not OFFERED there. */
    private static void hiddenNames() {
        due("f true = if true then 1 else 2; g = f 3", "0,1,1,1 0,4,9,1 0,4,10,1 4,5,-9,3");
        due("f = 1; g f = f + f && true", "");
        due("f = \\x.\\x.1 + true; g = x2; x2 = 3 ", "0,4,13,1 0,4,14,1 0,4,15,1");
    }

    private static void literals() {
        due("f = 1 + \"a\"", "1,2,-9,1");
        due("f = \"a\" == 1", "1,0,-9,1 1,2,-9,1 6,2,-9,4");
        due("f = show 1 == 2", "0,0,9,1 1,4,-9,1 6,4,-9,4");
    }

    private static void swaps() {
        String start = "f x y = if x then y + 1 else y; ";
        due(start + "g = f 1 true", "2,9,-9,2 4,7,-9,3");
        // In ( ) it is no f x y.
        due(start + "g = (f 1) true", "4,7,-9,3");
        due(start + "g = ((f 1)) true", "4,7,-9,3");
        due(start + "g = (f) 1 true", "2,9,-9,2 4,7,-9,3");
        due(start + "g = (f 1 true)", "2,9,-9,2 4,7,-9,3");
    }

    private static void signs() {
        due("f = [1] + [2]", "3,2,-9,2");
        due("f = 1 ++ 2", "3,1,-9,2");
        due("f = \"\" ++ \"\"", "");
    }

    /** A CALL becomes what it calls; what its argument says is gone. */
    private static void drops() {
        due("f = show 1 2", "4,1,-9,3 4,3,-9,3");
        due("f = show (1 + \"\")", "1,4,-9,1 4,1,-9,3");
    }

    private static void wraps() {
        due("f = 1 + [2]", "7,2,-9,4");
        due("f = head 1", "0,0,9,1 0,0,10,1 4,1,-9,3 5,2,-9,4");
        due("f = [not]; g = f true", "0,2,2,1 0,2,9,1 0,2,10,1 4,3,-9,3 7,0,-9,4 7,2,-9,4");
        // A node whose own rules conflict is not mended by what is around it.
        due("f = [1 + \"\"]", "1,3,-9,1");
        due("f = [1] == [[2]]", "5,0,-9,4 5,1,-9,4 7,3,-9,4 7,4,-9,4");
    }

    /** By cost, then by nodes, then by sorts, then by what the NAME means. */
    private static void order() {
        String[] texts = {"f = not 1", "f = (head 1, 2)", "f x = x ++ 1; g = f [2]", "f x y = x; g = not (f 1 2)"};
        for (String text : texts) {
            ConflictPlaces x = Check.of(text);
            int last = -1;
            for (int i = 0; i < x.changes(); i++) {
                int rank = ((x.change(i, 3) * 100 + x.change(i, 1)) * 10 + x.change(i, 0)) * 100 + x.change(i, 2) + 9;
                Check.due("rising order of " + text, rank > last ? 1 : 0, 1);
                last = rank;
            }
        }
    }

    private static void howMany() {
        Check.due("changes() of a text that fits", Check.of("f = 1").changes(), 0);
        Check.due("changes() without a text", new ConflictPlaces().changes(), Check.STATE);
        ConflictPlaces x = Check.of("f = not 1");
        Check.due("changes()", x.changes(), 3);
        Check.due("changes() once more", x.changes(), 3);
        Check.due("told(4): no WORK", x.told(4), 0);
        Check.read(x, "f = )");
        Check.due("changes() behind a faulty text", x.changes(), 3);
        Check.read(x, "f = 1 + \"a\"");
        Check.due("changes() of the next text", Check.offered(x), "1,2,-9,1");
        Check.read(x, "f = 2");
        Check.due("changes() of one that fits", x.changes(), 0);
        Check.due("change(0, 0)", x.change(0, 0), Check.BAD);
    }

    private static void wrongNumbers() {
        ConflictPlaces x = Check.of("f = not 1");
        // It needs no changes() before it.
        Check.due("change(1, 2)", x.change(1, 2), 10);
        int[] wrong = {-1, 4, 5, Integer.MIN_VALUE, Integer.MAX_VALUE};
        for (int i : wrong) {
            Check.due("change(" + i + ", 0)", x.change(i, 0), Check.BAD);
            Check.due("change(0, " + i + ")", x.change(0, i), Check.BAD);
        }
        Check.due("change(3, 0)", x.change(3, 0), Check.BAD);
        Check.due("change(2, 3)", x.change(2, 3), 3);
        Check.due("change(0, 0) without a text", new ConflictPlaces().change(0, 0), Check.BAD);
    }
}
