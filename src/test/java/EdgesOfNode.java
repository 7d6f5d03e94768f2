/** Promise 5. */
final class EdgesOfNode {
    private static final String OF_A_NODE = "Of a node: 0 its place (of the TOKEN's first byte), 1 what it is (0 .. 13), 2 the"
        + " number of what a NAME means (NONE of others).";

    private EdgesOfNode() {
    }

    @Sentence(promise = 5, says = OF_A_NODE)
    static void firstAndLastPlace() {
        Check.due("node(0, 0) of f=1", Check.of("f=1").node(0, 0), 2);
        Check.due("place of the last byte", Check.of("f=" + Check.times(" ", 237) + "1").node(0, 0), 239);
        // The first byte of a TOKEN of several
        ConflictPlaces x = Check.of("f=  123456 \"12345678\"==abcdefgh&&true++[];abcdefgh=1");
        int[] places = {4, 11, 11, 21, 23, 31, 33, 37, 39};
        for (int n = 0; n < places.length; n++) {
            Check.due("node(" + n + ", 0)", x.node(n, 0), places[n]);
        }
    }

    @Sentence(promise = 5, says = OF_A_NODE)
    static void firstAndLastNode() {
        ConflictPlaces x = Check.of("f=[1" + Check.times(",1", 77) + ",f]");
        Check.due("node(0, 0)", x.node(0, 0), 2);
        Check.due("node(0, 1)", x.node(0, 1), 7);
        Check.due("node(79, 0)", x.node(79, 0), 159);
        Check.due("node(79, 1)", x.node(79, 1), 0);
        Check.due("node(79, 2)", x.node(79, 2), 11);
    }

    /** Each kind, and that only a NAME means something: \ has a BINDER, but is no NAME. */
    @Sentence(promise = 5, says = OF_A_NODE)
    static void kindsAndNoneOfOthers() {
        String[] texts = {"f=id", "f=1", "f=\"\"", "f=1 1", "f=\\x.1", "f=if 1 then 1 else 1", "f=(1,1)", "f=[]",
            "f=1&&1", "f=1==1", "f=1<1", "f=1:1", "f=1+1", "f=1++1"};
        int[] nodes = {0, 0, 0, 1, 0, 0, 0, 0, 1, 1, 1, 1, 1, 1};
        for (int kind = 0; kind < 14; kind++) {
            ConflictPlaces x = Check.of(texts[kind]);
            Check.due("what " + texts[kind] + " is", x.node(nodes[kind], 1), kind);
            Check.due("what " + texts[kind] + " means", x.node(nodes[kind], 2), kind == 0 ? 9 : Check.NONE);
        }
    }

    @Sentence(promise = 5, says = OF_A_NODE)
    static void firstAndLastMeaning() {
        String[] builtIn = {"true", "false", "not", "head", "tail", "null", "length", "fst", "snd", "id", "show"};
        for (int m = 0; m < builtIn.length; m++) {
            Check.due("what " + builtIn[m] + " means", Check.of("f=" + builtIn[m]).node(0, 2), m);
        }
        Check.due("the first BINDER", Check.of("f=f").node(0, 2), 11);
        Check.due("the last BINDER", Check.of("a=1;b=1;c=1;d=1;e=1;f g h i j k l m n o p q r s t u v=v").node(5, 2), 32);
        Check.due("a DECL's NAME behind all others", Check.of("a b c d e f g h i j k l m n o p q=z;z=1").node(0, 2), 28);
    }

    /** Two nodes at one TOKEN, be it a leaf, a pair or a list; a ( alone is none. */
    @Sentence(promise = 5, says = "NODES are numbered as they stand, from 0 on, of those at one TOKEN the CALL first")
    static void twoAtOneToken() {
        String[] arguments = {" 1", "(1,1)", "[1]", "(1)"};
        int[] kinds = {1, 6, 7, 1};
        int[] places = {5, 4, 4, 5};
        for (int i = 0; i < arguments.length; i++) {
            ConflictPlaces x = Check.of("f=id" + arguments[i]);
            Check.due("the CALL of id" + arguments[i], x.node(1, 1), 3);
            Check.due("place of the CALL of id" + arguments[i], x.node(1, 0), i == 0 ? 5 : 4);
            Check.due("the argument of id" + arguments[i], x.node(2, 1), kinds[i]);
            Check.due("place of the argument of id" + arguments[i], x.node(2, 0), places[i]);
        }
    }

    @Sentence(promise = 5, says = "BAD.")
    static void noSuchNode() {
        ConflictPlaces x = Check.of("f = 1 + 2");
        int[] wrong = {-1, 3, 79, 80, 81, 256, Integer.MIN_VALUE, Integer.MAX_VALUE};
        for (int node : wrong) {
            for (int what = 0; what < 3; what++) {
                Check.due("node(" + node + ", " + what + ")", x.node(node, what), Check.BAD);
            }
        }
        Check.due("node(2, 0)", x.node(2, 0), 8);
        ConflictPlaces full = Check.of("f=[1" + Check.times(",1", 78) + "]");
        Check.due("node(80, 0) of 80", full.node(80, 0), Check.BAD);
    }

    @Sentence(promise = 5, says = "BAD.")
    static void noSuchWhat() {
        ConflictPlaces x = Check.of("f = id 1");
        int[] wrong = {-1, 3, 4, 256, Integer.MIN_VALUE, Integer.MAX_VALUE};
        for (int what : wrong) {
            for (int node = 0; node < 3; node++) {
                Check.due("node(" + node + ", " + what + ")", x.node(node, what), Check.BAD);
            }
            Check.due("node(3, " + what + ")", x.node(3, what), Check.BAD);
        }
    }

    /** Nodes of a longer text before, or of one with a fault, are no nodes. */
    @Sentence(promise = 5, says = "BAD.")
    static void nodesOfOtherTexts() {
        ConflictPlaces x = Check.of("f = [1, 2, 3]");
        Check.read(x, "f = 1");
        Check.due("node(1, 0)", x.node(1, 0), Check.BAD);
        Check.read(x, "f = [1, 2, 3");
        Check.due("node(1, 0) behind a fault", x.node(1, 0), Check.BAD);
        Check.due("node(0, 0) without a text", new ConflictPlaces().node(0, 0), Check.BAD);
    }
}
