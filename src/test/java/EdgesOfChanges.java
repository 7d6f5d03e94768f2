/** Promises 15 and 16. */
final class EdgesOfChanges {
    private static final String OF_A_CHANGE = "Of the i-th that is OFFERED: 0 its sort, 1 its node, 2 the number of what the"
        + " NAME means then (NONE of others), 3 its cost.";
    private static final String ORDER =
        "They are in order by cost, then by nodes, then by sort, then by the number of what the NAME means then.";

    private EdgesOfChanges() {
    }

    private static void offered(String text, String want) {
        Check.due("changes of " + text, Check.offered(Check.of(text)), want);
    }

    @Sentence(promise = 15, says = "How many changes are OFFERED.")
    static void noneOfTextThatFits() {
        Check.due("changes() of f=1", Check.of("f=1").changes(), 0);
        Check.due("changes() of f=f", Check.of("f=f").changes(), 0);
        Check.due("changes() of id id id", Check.of("f=id id id").changes(), 0);
    }

    /** Two places that are wrong: no one change mends both. */
    @Sentence(promise = 15, says = "How many changes are OFFERED.")
    static void noneThatMends() {
        Check.due("changes() of two faults", Check.of("f=1+\"\";g=1+\"\"").changes(), 0);
        Check.due("changes() of one fault", Check.of("f=1+\"\";g=1").changes(), 1);
    }

    /** At a place where all 22 BINDERS are meant. */
    @Sentence(promise = 15, says = "How many changes are OFFERED.")
    static void mostMeaningsOfOneName() {
        ConflictPlaces x = Check.of("a=a;b=b;c=c;d=d;e g h i j k l m n o p q r s t u v=[not 1];f=f");
        int last = x.changes();
        StringBuilder meanings = new StringBuilder();
        for (int i = 0; i < last && x.change(i, 0) == 0; i++) {
            meanings.append(x.change(i, 2)).append(' ');
        }
        // id, show, and all BINDERS but e: the type of e 1 would be a part of itself
        Check.due("meanings", meanings.toString(), "9 10 11 12 13 14 16 17 18 19 20 21 22 23 24 25 26 27 28 29 30 31 32 ");
    }

    /**
     * Each of 38 times id can be each of the 16 NAMES behind f; the 23rd one can be f too, of which
     * 16 arguments are left there; and the TEXT can be a NUMBER.
     */
    @Sentence(promise = 15, says = "How many changes are OFFERED.")
    static void hundredsOfChanges() {
        ConflictPlaces x = Check.of("f a b c d e g h i j k l m n o p q=1+" + Check.times("id ", 38) + "\"\"");
        Check.due("changes()", x.changes(), 38 * 16 + 2);
        int[] first = {0, 2, 12, 1};
        int[] atF = {0, 46, 11, 1};
        int[] lastName = {0, 76, 27, 1};
        int[] last = {1, 78, Check.NONE, 1};
        for (int what = 0; what < 4; what++) {
            Check.due("change(0, " + what + ")", x.change(0, what), first[what]);
            Check.due("change(352, " + what + ")", x.change(22 * 16, what), atF[what]);
            Check.due("change(608, " + what + ")", x.change(608, what), lastName[what]);
            Check.due("change(609, " + what + ")", x.change(609, what), last[what]);
            Check.due("change(610, " + what + ")", x.change(610, what), Check.BAD);
        }
        Check.due("mended(609, 27)", x.mended(609, 27), 1);
        Check.due("mended(610, 27)", x.mended(610, 27), Check.BAD);
    }

    @Sentence(promise = 15, says = "STATE: there is no text.")
    static void noText() {
        ConflictPlaces x = new ConflictPlaces();
        Check.due("changes()", x.changes(), Check.STATE);
        Check.read(x, "f=");
        Check.due("changes() behind a fault", x.changes(), Check.STATE);
        Check.read(x, "f=1");
        Check.due("changes() with a text", x.changes(), 0);
        Check.read(x, "f=");
        Check.due("changes() of the text before", x.changes(), 0);
    }

    @Sentence(promise = 15, says = "it means another one of the BINDERS and BUILT-IN NAMES that some NAME means at this place.")
    static void hiddenOnesAreNotMeant() {
        // Within \x the outer x is hidden, behind it the inner one is not there.
        offered("f x=\\x.1+true", "0,3,13,1");
        offered("f x=(\\x.x,1+true)", "0,5,12,1");
        // A DECL's NAME that one behind another DECL's NAME hides, and the same one if it does not
        offered("g=1;f g=1+true", "0,3,13,1");
        offered("g=1;f=1+true", "0,3,11,1 0,3,12,1");
        // A BUILT-IN one that is hidden
        offered("f=\\id.not 1", "0,1,10,1 0,1,11,1 0,1,12,1 4,2,-9,3");
    }

    /** A NAME is no change into itself. */
    @Sentence(promise = 15, says = "a NAME in an E is another one")
    static void notTheSameOne() {
        ConflictPlaces x = Check.of("f=not 1");
        for (int i = 0; i < x.changes(); i++) {
            Check.due("change " + i + " is another one", x.change(i, 0) == 0 && x.change(i, 2) == 2 ? 1 : 0, 0);
        }
    }

    /** f x y has one such CALL, f x none, and (f x) y none. */
    @Sentence(promise = 15, says = "the argument of a CALL, and that of the CALL that it calls (f x y; not in ( ) either)")
    static void placesThatChange() {
        String start = "f x y=if x then y+1 else y;";
        offered(start + "g=f 1 true", "2,9,-9,2 4,7,-9,3");
        offered(start + "g=(f 1) true", "4,7,-9,3");
        offered(start + "g=(f 1 true)", "2,9,-9,2 4,7,-9,3");
        offered(start + "g=f(1)(true)", "2,9,-9,2 4,7,-9,3");
        // The ( ) of texts before do not count.
        ConflictPlaces x = new ConflictPlaces();
        for (int turn = 0; turn < 4; turn++) {
            Check.read(x, start + "g=(f 1) true");
        }
        Check.read(x, start + "g=f 1 true");
        Check.due("changes behind a text with ( )", Check.offered(x), "2,9,-9,2 4,7,-9,3");
        Check.read(x, start + "g=f 1 true");
        Check.due("changes behind a text with ( )", Check.offered(x), "2,9,-9,2 4,7,-9,3");
    }

    @Sentence(promise = 15, says = "(Of 5 to 7 those of a NAME that is called, too.)")
    static void nameThatIsCalled() {
        offered("f=[not];g=f true", "0,2,2,1 0,2,9,1 0,2,10,1 4,3,-9,3 7,0,-9,4 7,2,-9,4");
    }

    @Sentence(promise = 16, says = OF_A_CHANGE)
    static void firstAndLastChange() {
        ConflictPlaces x = Check.of("f=head 1");
        // It is asked of without changes() before it.
        Check.due("change(3, 0)", x.change(3, 0), 5);
        Check.due("change(3, 1)", x.change(3, 1), 2);
        Check.due("change(3, 2)", x.change(3, 2), Check.NONE);
        Check.due("change(3, 3)", x.change(3, 3), 4);
        Check.due("change(0, 0)", x.change(0, 0), 0);
        Check.due("change(0, 1)", x.change(0, 1), 0);
        Check.due("change(0, 2)", x.change(0, 2), 9);
        Check.due("change(0, 3)", x.change(0, 3), 1);
        Check.due("changes()", x.changes(), 4);
    }

    /** The first and the last number that a NAME can mean, and NONE of each other sort. */
    @Sentence(promise = 16, says = OF_A_CHANGE)
    static void firstAndLastMeaningAndNone() {
        Check.due("true", Check.of("a=id;f=if a then 1 else 1").change(0, 2), 0);
        ConflictPlaces x = Check.of("a=1;b=1;c=1;d=1;e=1;f g h i j k l m n o p q r s t u v=not 1+1");
        int last = -1;
        for (int i = 0; i < x.changes(); i++) {
            if (x.change(i, 0) == 0) {
                last = x.change(i, 2);
            }
        }
        Check.due("the last BINDER", last, 32);
        none("f=1+\"\"", 1);
        none("f x y=if x then y+1 else y;g=f 1 true", 2);
        none("f=[1]+[2]", 3);
        none("f=show(1+\"\")", 4);
        none("f=head 1", 5);
        none("f=\"\"==1", 6);
        none("f=1+[2]", 7);
    }

    private static void none(String text, int sort) {
        ConflictPlaces x = Check.of(text);
        int seen = 0;
        for (int i = 0; i < x.changes(); i++) {
            if (x.change(i, 0) == sort) {
                Check.due("meaning of sort " + sort, x.change(i, 2), Check.NONE);
                seen++;
            }
        }
        Check.due("sort " + sort + " is OFFERED for " + text, seen > 0 ? 1 : 0, 1);
    }

    @Sentence(promise = 16, says = ORDER)
    static void nodesGoAheadOfSorts() {
        // Sorts 0 and 1 cost the same, then those of 4.
        offered("f=id 1==\"\"", "0,0,10,1 1,2,-9,1 1,4,-9,1 6,1,-9,4 6,2,-9,4");
        offered("f=\"\"==id 1", "1,0,-9,1 0,2,10,1 1,4,-9,1 6,3,-9,4 6,4,-9,4");
        // Sorts 2 and 3 cost the same: the CALL stands ahead of the + , then behind it.
        Check.due("cost 2", ofCost("f x y=x;g z=f[1]2+z", 2), "2,5 3,7");
        Check.due("cost 2", ofCost("f x y=x;g z=z+f[1]2", 2), "3,2 2,7");
    }

    /** Of one node first by sort, and of one sort by what the NAME means. */
    @Sentence(promise = 16, says = ORDER)
    static void sameNode() {
        offered("f x=x:x", "0,0,0,1 0,0,1,1 0,0,2,1 0,0,3,1 0,0,4,1 0,0,5,1 0,0,6,1 0,0,7,1 0,0,8,1 0,0,9,1 0,0,10,1"
            + " 6,0,-9,4 7,0,-9,4 5,2,-9,4");
    }

    private static String ofCost(String text, int cost) {
        ConflictPlaces x = Check.of(text);
        StringBuilder b = new StringBuilder();
        for (int i = 0; i < x.changes(); i++) {
            if (x.change(i, 3) == cost) {
                b.append(b.length() == 0 ? "" : " ").append(x.change(i, 0)).append(',').append(x.change(i, 1));
            }
        }
        return b.toString();
    }

    @Sentence(promise = 16, says = "BAD: no such one, what.")
    static void noSuchChange() {
        ConflictPlaces x = Check.of("f=not 1");
        Check.due("change(2, 0)", x.change(2, 0), 4);
        int[] wrong = {-1, 3, 4, 3040, Integer.MIN_VALUE, Integer.MAX_VALUE};
        for (int i : wrong) {
            for (int what = 0; what < 4; what++) {
                Check.due("change(" + i + ", " + what + ")", x.change(i, what), Check.BAD);
            }
        }
        Check.due("change(0, 0) of a text that fits", Check.of("f=1").change(0, 0), Check.BAD);
        Check.due("change(0, 0) of one that nothing mends", Check.of("f=1+\"\"+\"\"").change(0, 0), Check.BAD);
        Check.due("change(0, 0) without a text", new ConflictPlaces().change(0, 0), Check.BAD);
        Check.read(x, "f=1+\"\"");
        Check.due("change(1, 0) behind a text with more", x.change(1, 0), Check.BAD);
    }

    @Sentence(promise = 16, says = "BAD: no such one, what.")
    static void noSuchWhat() {
        ConflictPlaces x = Check.of("f=not 1");
        int[] wrong = {-1, 4, 5, Integer.MIN_VALUE, Integer.MAX_VALUE};
        for (int what : wrong) {
            for (int i = 0; i < 4; i++) {
                Check.due("change(" + i + ", " + what + ")", x.change(i, what), Check.BAD);
            }
        }
        Check.due("change(0, 3)", x.change(0, 3), 1);
    }
}
