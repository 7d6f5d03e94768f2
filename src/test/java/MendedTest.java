/** Promise 17: types in the text with a change. */
public final class MendedTest {
    public static void main(String[] args) {
        eachSort();
        changesThatLeaveOthers();
        goneArgument();
        longTypes();
        refusals();
        Check.end();
    }

    /** The types of BINDERS 11 and more with the i-th change, with | between them. */
    private static void due(String text, int i, String want) {
        ConflictPlaces x = Check.of(text);
        StringBuilder b = new StringBuilder();
        for (int k = 0; k < x.told(1); k++) {
            b.append(k == 0 ? "" : "|").append(Check.written(x, x.mended(i, 11 + k)));
        }
        Check.due("change " + i + " of " + text, b.toString(), want);
    }

    private static void eachSort() {
        // id 1, show 1, not
        due("f = not 1", 0, "Num");
        due("f = not 1", 1, "Text");
        due("f = not 1", 2, "Bool -> Bool");
        due("f = 1 + \"a\"", 0, "Num");
        due("f = [1, \"a\"]", 0, "[Text]");
        due("f = [1, \"a\"]", 1, "[Num]");
        // f true 1, f true
        due("f x y = if x then y + 1 else y; g = f 1 true", 0, "Bool -> Num -> Num|Bool|Num|Num");
        due("f x y = if x then y + 1 else y; g = f 1 true", 1, "Bool -> Num -> Num|Bool|Num|Num -> Num");
        due("f x = [x] + [1]", 0, "Num -> [Num]|Num");
        due("f x y = x ++ y + 1", 0, "Num -> Num -> Num|Num|Num");
        due("f = show 1 2", 0, "Text");
        due("f = show 1 2", 1, "Text");
        // head [1] is [ e ], then "a" == show 1, then 1 + head [2]
        due("f = head 1", 3, "Num");
        due("f = \"a\" == 1", 2, "Bool");
        due("f = 1 + [2]", 0, "Num");
    }

    private static void changesThatLeaveOthers() {
        String text = "f = [not]; g = f true";
        // not true, id true, show true, f, f being head [not], (head f) true
        due(text, 0, "[Bool -> Bool]|Bool");
        due(text, 1, "[Bool -> Bool]|Bool");
        due(text, 2, "[Bool -> Bool]|Text");
        due(text, 3, "[Bool -> Bool]|[Bool -> Bool]");
        due(text, 4, "Bool -> Bool|Bool");
        due(text, 5, "[Bool -> Bool]|Bool");
        ConflictPlaces x = Check.of(text);
        x.mended(4, 11);
        Check.due("fits() behind it", x.fits(), 0);
        Check.due("binder(11) behind it", x.binder(11), Check.NO);
        Check.due("changes() behind it", x.changes(), 6);
        Check.due("told(4) behind it", x.told(4), 0);
    }

    /** Nothing says any more what a BINDER in an argument that is gone is. */
    private static void goneArgument() {
        String text = "f = show (\\x.x + \"\")";
        due(text, 0, "Text|Num");
        due(text, 1, "a -> Text|a");
    }

    private static void longTypes() {
        String start = "a=((1,1),1);b=(a,a);c=(b,b);d=(c,c);e=(d,d);";
        ConflictPlaces x = Check.of(start + "f=([[[[(e,\"\")]]]],1+\"\")");
        Check.due("mended(0, 11)", Check.written(x, x.mended(0, 11)), "((Num,Num),Num)");
        Check.due("mended(0, 16)", x.mended(0, 16), Check.FULL);
        Check.due("out stays", Check.out(x), "((Num,Num),Num)");
        Check.due("mended(0, 15)", x.mended(0, 15), 285);
        ConflictPlaces y = Check.of(start + "f=[[[[(e,1<\"\")]]]]");
        Check.due("mended(0, 16)", y.mended(0, 16), 300);
        ConflictPlaces z = Check.of(start + "f=[[[[[(e,1+\"\")]]]]]");
        Check.due("mended(0, 16)", z.mended(0, 16), Check.FULL);
    }

    private static void refusals() {
        ConflictPlaces x = Check.of("f = not 1");
        Check.due("mended(0, 11)", x.mended(0, 11), 3);
        int[] wrong = {-1, 3, 4, 10, 12, 13, 33, Integer.MIN_VALUE, Integer.MAX_VALUE};
        for (int i : wrong) {
            Check.due("mended(" + i + ", 11)", x.mended(i, 11), Check.BAD);
            Check.due("mended(0, " + i + ")", x.mended(0, i), Check.BAD);
        }
        Check.due("out stays", Check.out(x), "Num");
        Check.due("mended(0, 11) of a text that fits", Check.of("f = 1").mended(0, 11), Check.BAD);
        Check.due("mended(0, 11) of one that nothing mends", Check.of("f = 1 + \"\" + \"\"").mended(0, 11), Check.BAD);
        Check.due("mended(0, 11) without a text", new ConflictPlaces().mended(0, 11), Check.BAD);
    }
}
