/** Promise 5: the numbers, places and kinds of nodes, and what NAMES mean. */
public final class NodeTest {
    public static void main(String[] args) {
        due("f x = x + 1; g = f 2 \"a\"",
            "6,0,12 8,12,-9 10,1,-9 17,0,11 19,3,-9 19,1,-9 21,3,-9 21,2,-9");
        allKinds();
        order();
        meanings();
        wrongNumbers();
        Check.end();
    }

    private static void due(String text, String want) {
        ConflictPlaces x = Check.of(text);
        StringBuilder b = new StringBuilder();
        for (int n = 0; n < x.told(2); n++) {
            b.append(n == 0 ? "" : " ").append(x.node(n, 0)).append(',').append(x.node(n, 1));
            b.append(',').append(x.node(n, 2));
        }
        Check.due("nodes of " + text, b.toString(), want);
    }

    private static void allKinds() {
        due("f = \\x.x", "4,4,-9 7,0,12");
        due("f = if true then 1 else \"\"", "4,5,-9 7,0,0 17,1,-9 24,2,-9");
        due("f = (1, \"a\")", "4,6,-9 5,1,-9 8,2,-9");
        due("f = [ ]", "4,7,-9");
        due("f = [1,2]", "4,7,-9 5,1,-9 7,1,-9");
        due("f = 1 && 2", "4,1,-9 6,8,-9 9,1,-9");
        due("f = 1 == 2", "4,1,-9 6,9,-9 9,1,-9");
        due("f = 1 < 2", "4,1,-9 6,10,-9 8,1,-9");
        due("f = 1 : 2", "4,1,-9 6,11,-9 8,1,-9");
        due("f = 1 + 2", "4,1,-9 6,12,-9 8,1,-9");
        due("f = 1 ++ 2", "4,1,-9 6,13,-9 9,1,-9");
        due("f = ((1))", "6,1,-9");
    }

    /** A CALL stands at its argument's first token, ahead of what else stands there. */
    private static void order() {
        due("f = id (1, 2)", "4,0,9 7,3,-9 7,6,-9 8,1,-9 11,1,-9");
        due("f = id [1]", "4,0,9 7,3,-9 7,7,-9 8,1,-9");
        due("f = id (id 1)", "4,0,9 7,3,-9 8,0,9 11,3,-9 11,1,-9");
        due("f = (id id) ((1))", "5,0,9 8,3,-9 8,0,9 12,3,-9 14,1,-9");
        due("f = ((1, 2), (3))", "4,6,-9 5,6,-9 6,1,-9 9,1,-9 14,1,-9");
        due("f = [(1), (2, [3])]", "4,7,-9 6,1,-9 10,6,-9 11,1,-9 14,7,-9 15,1,-9");
    }

    private static void meanings() {
        due("f = (true,(false,(not,(head,(tail,(null,(length,(fst,(snd,(id,show))))))))))",
            "4,6,-9 5,0,0 10,6,-9 11,0,1 17,6,-9 18,0,2 22,6,-9 23,0,3 28,6,-9 29,0,4 34,6,-9 35,0,5"
                + " 40,6,-9 41,0,6 48,6,-9 49,0,7 53,6,-9 54,0,8 58,6,-9 59,0,9 62,0,10");
        // DECLS mean each other wherever they stand.
        due("f = g; g = f", "4,0,12 11,0,11");
        // The innermost one, then those behind the DECL's NAME, then DECLS, then BUILT-IN ones.
        due("f x = \\x.\\x.x", "6,4,-9 9,4,-9 12,0,14");
        due("f x = (\\x.x) x", "7,4,-9 10,0,13 13,3,-9 13,0,12");
        due("f g = g; g = f", "6,0,12 13,0,11");
        due("f f = f", "6,0,12");
        due("f id = id; g = id", "7,0,12 15,0,9");
        due("f = \\not.not; g = not", "4,4,-9 9,0,12 18,0,2");
        due("f = \\g.g; g = g", "4,4,-9 7,0,12 14,0,13");
        due("f = (\\x.\\y.x, \\y.y)", "4,6,-9 5,4,-9 8,4,-9 11,0,12 14,4,-9 17,0,14");
    }

    private static void wrongNumbers() {
        ConflictPlaces x = Check.of("f = 1 + 2");
        int[] wrong = {-1, 3, 4, 80, Integer.MIN_VALUE, Integer.MAX_VALUE};
        for (int n : wrong) {
            Check.due("node(" + n + ", 0)", x.node(n, 0), Check.BAD);
            Check.due("node(0, " + n + ")", x.node(0, n), Check.BAD);
            Check.due("node(" + n + ", 5)", x.node(n, 5), Check.BAD);
        }
    }
}
