/** Promise 7. */
public final class FitsTest {
    public static void main(String[] args) {
        constants();
        functions();
        builtIns();
        oneTypeAtAllPlaces();
        finiteTypes();
        Check.end();
    }

    private static void due(String text, int want) {
        Check.due("fits() of " + text, Check.of(text).fits(), want);
    }

    private static void constants() {
        due("f = 1", 1);
        due("f = 1 + 2", 1);
        due("f = 1 + \"\"", 0);
        due("f = \"\" + 1", 0);
        due("f = 1 == \"\"", 0);
        due("f = \"\" == \"\"", 1);
        due("f = 1 < 2 && true", 1);
        due("f = 1 < 2 && 1", 0);
        due("f = true < false", 0);
        due("f = if true then 1 else 2", 1);
        due("f = if 1 then 1 else 2", 0);
        due("f = if true then 1 else \"\"", 0);
        due("f = [1, 2]", 1);
        due("f = [1, \"\"]", 0);
        due("f = 1 : 2 : []", 1);
        due("f = 1 : 2", 0);
        due("f = (1 : 2) : []", 0);
        due("f = \"\" : [1]", 0);
        due("f = [1] ++ [2] ++ []", 1);
        due("f = [1] ++ [\"\"]", 0);
        due("f = \"\" ++ \"\"", 0);
        due("f = (1, \"\") == (2, \"a\")", 1);
        due("f = (1, \"\") == (\"\", 1)", 0);
    }

    private static void functions() {
        due("f x = x + 1; g = f 1", 1);
        due("f x = x + 1; g = f \"\"", 0);
        due("f x = x; g = f 1 2", 0);
        due("f = 1 2", 0);
        due("f x y = if x then y else y + 1; g = f true 2", 1);
        due("f x y = if x then y else y + 1; g = f 2 true", 0);
        due("f = (\\x.x + 1) 2", 1);
        due("f x = f x", 1);
    }

    private static void builtIns() {
        due("f = not true", 1);
        due("f = not 1", 0);
        due("f = head [1] + length [\"\"]", 1);
        due("f = head (tail [1]) + 1", 1);
        due("f = tail [1] + 1", 0);
        due("f = null [] && null [1]", 1);
        due("f = null 1", 0);
        due("f = fst (1, \"\") + 1", 1);
        due("f = snd (1, \"\") + 1", 0);
        due("f = show 1 == show [true]", 1);
        due("f = show 1 + 1", 0);
        // Each NAME has types of its own.
        due("f = (id 1, id \"\")", 1);
        due("f = id id 1", 1);
    }

    private static void oneTypeAtAllPlaces() {
        due("f x = x; g = (f 1, f 2)", 1);
        due("f x = x; g = (f 1, f \"\")", 0);
        due("f = id; g = (f 1, f \"\")", 0);
        due("f = \\x.(x 1, x \"\")", 0);
    }

    private static void finiteTypes() {
        due("f = f", 1);
        due("f x = f", 0);
        due("f x = x x", 0);
        due("f = [f]", 0);
        due("f = (f, 1)", 0);
        due("f x = x : x", 0);
        due("f x = g x; g y = [f y]", 0);
        due("f = \\x.\\y.x y y", 1);
        Check.due("fits() without a text", new ConflictPlaces().fits(), Check.STATE);
        ConflictPlaces x = new ConflictPlaces();
        Check.read(x, "f = ");
        Check.due("fits() behind a faulty text", x.fits(), Check.STATE);
    }
}
