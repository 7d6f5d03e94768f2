/** Promises 12 and 13: types of nodes and BINDERS, as they are written. */
public final class TypeTest {
    public static void main(String[] args) {
        binders();
        nodes();
        manyOpenTypes();
        longTypes();
        refusals();
        Check.end();
    }

    /** The types of BINDERS 11 and more, with | between them. */
    private static void due(String text, String want) {
        ConflictPlaces x = Check.of(text);
        StringBuilder b = new StringBuilder();
        for (int i = 0; i < x.told(1); i++) {
            b.append(i == 0 ? "" : "|").append(Check.written(x, x.binder(11 + i)));
        }
        Check.due("binders of " + text, b.toString(), want);
    }

    private static void binders() {
        due("f = 1", "Num");
        due("f = true", "Bool");
        due("f = \"a\"", "Text");
        due("f = []", "[a]");
        due("f = [[1]]", "[[Num]]");
        due("f = (1, \"\")", "(Num,Text)");
        due("f = ((1, []), 2 < 3)", "((Num,[a]),Bool)");
        due("f = f", "a");
        due("f x = x", "a -> a|a");
        due("f x y = x", "a -> b -> a|a|a");
        due("f x y = y", "a -> b -> b|a|a");
        due("f g x = g (g x)", "(a -> a) -> a -> a|a -> a|a");
        due("f g h x = g (h x)", "(a -> b) -> (c -> a) -> c -> b|a -> b|a -> b|a");
        due("f g = g (\\x.x)", "((a -> a) -> b) -> b|(a -> a) -> b|a");
        due("f x = (x 1, x 2)", "(Num -> a) -> (a,a)|Num -> a");
        due("f = [not]", "[Bool -> Bool]");
        due("f = (id, head)", "(a -> a,[b] -> b)");
        due("f = \\x.\\y.x + y", "Num -> Num -> Num|Num|Num");
        due("f = (true, not); g = (tail, null); h = (length, (fst, snd))",
            "(Bool,Bool -> Bool)|([a] -> [a],[b] -> Bool)|([a] -> Num,((b,c) -> b,(d,e) -> e))");
        due("f = (false, (id, show))", "(Bool,(a -> a,b -> Text))");
        due("f x y = x : y", "a -> [a] -> [a]|a|[a]");
        due("f x y = x : y : []", "a -> a -> [a]|a|a");
        due("f x y = x ++ y", "[a] -> [a] -> [a]|[a]|[a]");
        due("f x y = x == y", "a -> a -> Bool|a|a");
        due("f x y z = x < y && z", "Num -> Num -> Bool -> Bool|Num|Num|Bool");
        due("f x y z = if x then y else z", "Bool -> a -> a -> a|Bool|a|a");
        due("f x y z = [x, y, head z]", "a -> a -> [a] -> [a]|a|a|[a]");
        due("f x = g x; g y = f y", "a -> b|a|a -> b|a");
        due("map f x = if null x then [] else f (head x) : map f (tail x)",
            "(a -> b) -> [a] -> [b]|a -> b|[a]");
    }

    private static void nodes() {
        ConflictPlaces x = Check.of("f x = id x + length [true]");
        String[] want = {"Num -> Num", "Num", "Num", "Num", "[Bool] -> Num", "Num", "[Bool]", "Bool"};
        for (int n = 0; n < want.length; n++) {
            Check.due("type(" + n + ")", Check.written(x, x.type(n)), want[n]);
        }
        // Letters begin anew with each type that is written.
        ConflictPlaces y = Check.of("f = (head, fst)");
        Check.due("type(0)", Check.written(y, y.type(0)), "([a] -> a,(b,c) -> b)");
        Check.due("type(1)", Check.written(y, y.type(1)), "[a] -> a");
        Check.due("type(2)", Check.written(y, y.type(2)), "(a,b) -> a");
    }

    private static String tree(String[] leaves, int from, int to) {
        if (to - from == 1) {
            return leaves[from];
        }
        int middle = (from + to) / 2;
        return "(" + tree(leaves, from, middle) + "," + tree(leaves, middle, to) + ")";
    }

    private static void manyOpenTypes() {
        String[] lists = new String[32];
        String[] types = new String[32];
        for (int i = 0; i < 32; i++) {
            lists[i] = "[]";
            types[i] = "[" + (char) ('a' + i % 26) + (i < 26 ? "" : "1") + "]";
        }
        due("f=" + tree(lists, 0, 32), tree(types, 0, 32));
        due("f=" + tree(lists, 0, 26), tree(types, 0, 26));
        due("f=" + tree(lists, 0, 27), tree(types, 0, 27));
        String ten = "(id,(id,(id,(id,(id,(id,(id,(id,(id,id)))))))))";
        ConflictPlaces x = Check.of("f=(" + ten + ",(" + ten + "," + ten + "))");
        int length = x.binder(11);
        Check.due("binder(11) of 30 functions", length, 26 * 6 + 4 * 8 + 29 * 3);
        Check.due("the last open type", Check.out(x).substring(length - 14, length - 11), " d1");
    }

    /** With e of 285 bytes: (e,Text) has 292, each [ ] around it 2 more. */
    private static void longTypes() {
        String start = "a=((1,1),1);b=(a,a);c=(b,b);d=(c,c);e=(d,d);";
        ConflictPlaces x = Check.of(start + "f=[[[[(e,\"\")]]]]");
        Check.due("binder(15)", x.binder(15), 285);
        Check.due("binder(16)", x.binder(16), 300);
        Check.due("out(299)", x.out(299), ']');
        Check.due("out(300)", x.out(300), Check.NONE);
        Check.due("out(295)", x.out(295), ')');
        ConflictPlaces y = Check.of(start + "f=[[[[[(e,1)]]]]]");
        Check.due("binder(11)", Check.written(y, y.binder(11)), "((Num,Num),Num)");
        Check.due("binder(16)", y.binder(16), Check.FULL);
        Check.due("out stays", Check.out(y), "((Num,Num),Num)");
        Check.due("a node of 301 bytes", y.type(y.told(2) - 8), Check.FULL);
        Check.due("a node of 299 bytes", y.type(y.told(2) - 7), 299);
        // A function's last part ends what is written, with 300 bytes and with 301.
        ConflictPlaces v = Check.of(start + "f=\\x.if x==[(e,1)]then 1 else 2");
        Check.due("binder(16)", v.binder(16), 300);
        Check.due("out(299)", v.out(299), 'm');
        ConflictPlaces w = Check.of(start + "f=\\x.if x==[(e,\"\")]then 1 else 2");
        Check.due("binder(16)", w.binder(16), Check.FULL);
        ConflictPlaces z = Check.of("a=(1,1);b=(a,a);c=(b,b);d=(c,c);e=(d,d);f=((((e,e),(e,e)),((e,e),(e,e))),e)");
        Check.due("a type of far more", z.binder(16), Check.FULL);
        Check.due("out stays empty", z.out(0), Check.NONE);
    }

    private static void refusals() {
        ConflictPlaces x = Check.of("f y = y + 1");
        Check.due("type(0)", x.type(0), 3);
        int[] wrong = {-1, 3, 4, 80, 11, Integer.MIN_VALUE, Integer.MAX_VALUE};
        for (int n : wrong) {
            Check.due("type(" + n + ")", x.type(n), Check.BAD);
        }
        int[] none = {-1, 0, 3, 10, 13, 14, 33, Integer.MIN_VALUE, Integer.MAX_VALUE};
        for (int b : none) {
            Check.due("binder(" + b + ")", x.binder(b), Check.BAD);
        }
        Check.due("binder(12)", x.binder(12), 3);
        Check.read(x, "f y = y + true");
        Check.due("type(0)", x.type(0), Check.NO);
        Check.due("binder(11)", x.binder(11), Check.NO);
        Check.due("type(3): BAD is ahead of NO", x.type(3), Check.BAD);
        Check.due("binder(13): BAD is ahead of NO", x.binder(13), Check.BAD);
        Check.due("out stays", Check.out(x), "Num");
    }
}
