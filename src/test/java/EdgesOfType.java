/** Promise 12. */
final class EdgesOfType {
    private static final String BECOMES = "THE OUT becomes the type of a node, by all rules: how many bytes.";
    /** e has 285 bytes; the nodes of the next DECL begin with 17. */
    private static final String LONG = "a=((1,1),1);b=(a,a);c=(b,b);d=(c,c);e=(d,d);";

    private EdgesOfType() {
    }

    @Sentence(promise = 12, says = BECOMES)
    static void shortestType() {
        ConflictPlaces x = Check.of("f=f");
        Check.due("type(0)", x.type(0), 1);
        Check.due("out(0)", x.out(0), 'a');
        Check.due("out(1)", x.out(1), Check.NONE);
    }

    @Sentence(promise = 12, says = BECOMES)
    static void firstAndLastNode() {
        ConflictPlaces x = Check.of("f=[1" + Check.times(",1", 78) + "]");
        Check.due("type(0)", Check.written(x, x.type(0)), "[Num]");
        Check.due("type(79)", Check.written(x, x.type(79)), "Num");
    }

    /** Nothing of a longer type before is left. */
    @Sentence(promise = 12, says = BECOMES)
    static void shorterOneBehindLongerOne() {
        ConflictPlaces x = Check.of("f=((1,1),\"\")");
        Check.due("type(0)", Check.written(x, x.type(0)), "((Num,Num),Text)");
        Check.due("type(2)", Check.written(x, x.type(2)), "Num");
        Check.due("out(3)", x.out(3), Check.NONE);
        Check.due("type(1)", Check.written(x, x.type(1)), "(Num,Num)");
    }

    /** The letters turn round behind z: 26 and 27 open types. */
    @Sentence(promise = 12, says = "types that are open: a, b, .. z, a1, b1, .. as they come first in what is written.")
    static void lettersBehindZ() {
        String names = "f a b c d e g h i j k l m n o p q=";
        String start = "a -> b -> c -> d -> e -> f -> g -> h -> i -> j -> k -> l -> m -> n -> o -> p -> ";
        String[] lists = {"([],([],([],([],([],([],([],([],[]))))))))", "([],([],([],([],([],([],([],([],([],[])))))))))",
            "([],([],([],([],([],([],([],([],([],([],[]))))))))))", "([],([],([],([],([],([],([],([],([],([],([],[])))))))))))"};
        String[] types = {"([q],([r],([s],([t],([u],([v],([w],([x],[y]))))))))",
            "([q],([r],([s],([t],([u],([v],([w],([x],([y],[z])))))))))",
            "([q],([r],([s],([t],([u],([v],([w],([x],([y],([z],[a1]))))))))))",
            "([q],([r],([s],([t],([u],([v],([w],([x],([y],([z],([a1],[b1])))))))))))"};
        for (int i = 0; i < lists.length; i++) {
            ConflictPlaces x = Check.of(names + lists[i] + ";r=f");
            int last = x.told(2) - 1;
            Check.due("type(" + last + ") of " + lists[i], Check.written(x, x.type(last)), start + types[i]);
        }
    }

    /** 51 of them, in 296 bytes of a text of 80 nodes: the last ones are x1 and y1. */
    @Sentence(promise = 12, says = "types that are open: a, b, .. z, a1, b1, .. as they come first in what is written.")
    static void lettersFarBehindZ() {
        String[] parts = new String[35];
        String[] types = new String[35];
        String[] bare = {"r", "s", "t", "u", "v", "head[]", "head[]", "head[]"};
        for (int i = 0; i < 35; i++) {
            int open = 16 + i;
            String letter = (char) ('a' + open % 26) + (open < 26 ? "" : "1");
            parts[i] = i < bare.length ? bare[i] : "[]";
            types[i] = i < bare.length ? letter : "[" + letter + "]";
        }
        String text = "f a b c d e g h i j k l m n o p q=" + pairs(parts, 0, 35) + ";r=r;s=s;t=t;u=u;v=v";
        ConflictPlaces x = Check.of(text);
        Check.due("told(2)", x.told(2), 80);
        String start = "a -> b -> c -> d -> e -> f -> g -> h -> i -> j -> k -> l -> m -> n -> o -> p -> ";
        Check.due("binder(11)", Check.written(x, x.binder(11)), start + pairs(types, 0, 35));
        Check.due("type(0)", x.type(0), 35 + 9 + 27 * 2 + 34 * 3);
    }

    private static String pairs(String[] parts, int from, int to) {
        if (to - from == 1) {
            return parts[from];
        }
        int middle = (from + to) / 2;
        return "(" + pairs(parts, from, middle) + "," + pairs(parts, middle, to) + ")";
    }

    @Sentence(promise = 12, says = "BAD.")
    static void noSuchNode() {
        ConflictPlaces x = Check.of("f=1+2");
        Check.due("type(2)", x.type(2), 3);
        int[] wrong = {-1, 3, 4, 11, 79, 80, 104, Integer.MIN_VALUE, Integer.MAX_VALUE};
        for (int node : wrong) {
            Check.due("type(" + node + ")", x.type(node), Check.BAD);
        }
        Check.due("THE OUT stays", Check.out(x), "Num");
        Check.due("type(0) without a text", new ConflictPlaces().type(0), Check.BAD);
        ConflictPlaces most = Check.of("f=[1" + Check.times(",1", 78) + "]");
        Check.due("type(80) of 80", most.type(80), Check.BAD);
    }

    /** Of any node, also one that is far from what conflicts. */
    @Sentence(promise = 12, says = "NO: the text does not fit.")
    static void textDoesNotFit() {
        ConflictPlaces x = Check.of("f=\"\"");
        Check.due("type(0)", x.type(0), 4);
        Check.read(x, "g=1;f=1+\"\"");
        for (int node = 0; node < 4; node++) {
            Check.due("type(" + node + ")", x.type(node), Check.NO);
        }
        Check.due("THE OUT stays", Check.out(x), "Text");
        Check.due("type(4)", x.type(4), Check.BAD);
        ConflictPlaces endless = Check.of("g=1;f=[f]");
        Check.due("type(0) of an endless one", endless.type(0), Check.NO);
    }

    @Sentence(promise = 12, says = "FULL: more than 300 (THE OUT stays).")
    static void threeHundredAndOneMore() {
        ConflictPlaces most = Check.of(LONG + "f=[[[[(e,\"\")]]]]");
        Check.due("a type of 300", most.type(17), 300);
        Check.due("out(0)", most.out(0), '[');
        Check.due("out(299)", most.out(299), ']');
        Check.due("out(300)", most.out(300), Check.NONE);
        Check.due("a type of 298", most.type(18), 298);
        ConflictPlaces more = Check.of(LONG + "f=[[[[[(e,1)]]]]]");
        Check.due("a type of 301", more.type(17), Check.FULL);
        Check.due("out(0): it stays empty", more.out(0), Check.NONE);
        Check.due("a type of 299", more.type(18), 299);
        Check.due("a type of 301", more.type(17), Check.FULL);
        // Another object tells what stood there: one has not enough calls to tell it twice.
        ConflictPlaces other = Check.of(LONG + "f=[[[[[(e,1)]]]]]");
        Check.due("THE OUT stays", Check.out(more), Check.written(other, other.type(18)));
    }

    /** What ends a type of 300 or 301: a word, an open type, a function's right side. */
    @Sentence(promise = 12, says = "FULL: more than 300 (THE OUT stays).")
    static void lastBytesOfEachKind() {
        // x -> 1 with x of 293 bytes is 300, with x of 294 bytes 301.
        Check.due("[(e,Num)] -> Num", Check.of(LONG + "f=\\x.if x==[(e,1)]then 1 else 2").type(17), 300);
        Check.due("[(e,Text)] -> Num", Check.of(LONG + "f=\\x.if x==[(e,\"\")]then 1 else 2").type(17), Check.FULL);
        Check.due("[(e,Num)] -> Text", Check.of(LONG + "f=\\x.if x==[(e,1)]then \"\" else \"\"").type(17), Check.FULL);
        // x -> a with x of 295 bytes, and of 296
        Check.due("[[(e,Num)]] -> a", Check.of(LONG + "f=\\x.if x==[[(e,1)]]then f x else f x").type(17), 300);
        Check.due("[[(e,Text)]] -> a", Check.of(LONG + "f=\\x.if x==[[(e,\"\")]]then f x else f x").type(17), Check.FULL);
    }

    /** a has 9 bytes, b 45, c 189, then d 765 and e 3069. */
    @Sentence(promise = 12, says = "FULL: more than 300 (THE OUT stays).")
    static void farMoreThanThreeHundred() {
        ConflictPlaces x = Check.of("a=(1,1);b=((a,a),(a,a));c=((b,b),(b,b));d=((c,c),(c,c));e=((d,d),(d,d));f=\"\"");
        int last = x.told(2) - 1;
        Check.due("type(" + last + ")", x.type(last), 4);
        int[] nodes = {17, 18, 21, 24, 25, 26, 27, 28, 29, 30};
        for (int node : nodes) {
            Check.due("type(" + node + ")", x.type(node), Check.FULL);
        }
        Check.due("THE OUT stays", Check.out(x), "Text");
    }
}
