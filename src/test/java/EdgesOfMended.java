/** Promise 17. */
final class EdgesOfMended {
    private static final String LONG = "a=((1,1),1);b=(a,a);c=(b,b);d=(c,c);e=(d,d);";
    private static final String BECOMES =
        "THE OUT becomes the type of BINDER b in the text with the i-th change that is OFFERED.";

    private EdgesOfMended() {
    }

    private static void due(ConflictPlaces x, int i, int b, String want) {
        Check.due("mended(" + i + ", " + b + ")", Check.written(x, x.mended(i, b)), want);
    }

    @Sentence(promise = 17, says = BECOMES)
    static void firstAndLastChange() {
        // id 1, show 1, not
        ConflictPlaces x = Check.of("f=not 1");
        due(x, 2, 11, "Bool -> Bool");
        due(x, 0, 11, "Num");
        due(x, 1, 11, "Text");
        Check.due("changes()", x.changes(), 3);
    }

    @Sentence(promise = 17, says = BECOMES)
    static void firstAndLastBinder() {
        ConflictPlaces x = Check.of("a=1+\"\";b=1;c=1;d=1;e=1;f g h i j k l m n o p q r s t u=\\v.[v,\"\"]");
        Check.due("changes()", x.changes(), 1);
        due(x, 0, 11, "Num");
        due(x, 0, 16, "a -> b -> c -> d -> e -> f -> g -> h -> i -> j -> k -> l -> m -> n -> o -> Text -> [Text]");
        due(x, 0, 17, "a");
        due(x, 0, 31, "a");
        due(x, 0, 32, "Text");
    }

    /** Of a BINDER whose \ is gone with its argument nothing is said any more. */
    @Sentence(promise = 17, says = "a CALL is what it calls: the argument, and all rules in it, are gone.")
    static void binderInArgumentThatIsGone() {
        ConflictPlaces x = Check.of("f=show(\\x.x+\"\")");
        Check.due("change(1, 0)", x.change(1, 0), 4);
        due(x, 1, 11, "a -> Text");
        due(x, 1, 12, "a");
        due(x, 0, 12, "Num");
    }

    /** The text itself is as it was. */
    @Sentence(promise = 17, says = BECOMES)
    static void textStaysAsItWas() {
        ConflictPlaces x = Check.of("f=not 1");
        due(x, 0, 11, "Num");
        Check.due("fits()", x.fits(), 0);
        Check.due("binder(11)", x.binder(11), Check.NO);
        Check.due("told(3)", x.told(3), 4);
        Check.due("search(2000)", x.search(2000), 1);
        due(x, 0, 11, "Num");
    }

    @Sentence(promise = 17, says = "BAD.")
    static void noSuchChange() {
        ConflictPlaces x = Check.of("f=not 1");
        due(x, 0, 11, "Num");
        int[] wrong = {-1, 3, 4, 3040, Integer.MIN_VALUE, Integer.MAX_VALUE};
        for (int i : wrong) {
            Check.due("mended(" + i + ", 11)", x.mended(i, 11), Check.BAD);
        }
        Check.due("THE OUT stays", Check.out(x), "Num");
        Check.due("mended(0, 11) of a text that fits", Check.of("f=1").mended(0, 11), Check.BAD);
        Check.due("mended(0, 11) of one that nothing mends", Check.of("f=1+\"\"+\"\"").mended(0, 11), Check.BAD);
        Check.due("mended(0, 11) without a text", new ConflictPlaces().mended(0, 11), Check.BAD);
    }

    @Sentence(promise = 17, says = "BAD.")
    static void noSuchBinder() {
        ConflictPlaces x = Check.of("f=not 1");
        due(x, 0, 11, "Num");
        int[] wrong = {-1, 0, 10, 12, 13, 32, 33, Integer.MIN_VALUE, Integer.MAX_VALUE};
        for (int b : wrong) {
            Check.due("mended(0, " + b + ")", x.mended(0, b), Check.BAD);
            Check.due("mended(3, " + b + ")", x.mended(3, b), Check.BAD);
        }
        Check.due("THE OUT stays", Check.out(x), "Num");
    }

    @Sentence(promise = 17, says = "FULL.")
    static void threeHundredAndOneMore() {
        ConflictPlaces most = Check.of(LONG + "f=[[[[(e,1<\"\")]]]]");
        Check.due("a type of 300", most.mended(0, 16), 300);
        Check.due("out(299)", most.out(299), ']');
        ConflictPlaces more = Check.of(LONG + "f=[[[[[(e,1+\"\")]]]]]");
        Check.due("mended(0, 11)", more.mended(0, 11), 15);
        Check.due("a type of 301", more.mended(0, 16), Check.FULL);
        Check.due("THE OUT stays", Check.out(more), "((Num,Num),Num)");
    }
}
