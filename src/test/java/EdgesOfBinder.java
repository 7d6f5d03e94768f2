/** Promise 13. */
final class EdgesOfBinder {
    private static final String LONG = "a=((1,1),1);b=(a,a);c=(b,b);d=(c,c);e=(d,d);";
    private static final String REFUSED = "BAD; NO; FULL.";

    private EdgesOfBinder() {
    }

    @Sentence(promise = 13, says = "Likewise of BINDER b (11 and more).")
    static void firstAndLastBinder() {
        ConflictPlaces x = Check.of("f=1");
        Check.due("binder(11)", Check.written(x, x.binder(11)), "Num");
        ConflictPlaces most = Check.of("a=1;b=1;c=1;d=1;e=1;f g h i j k l m n o p q r s t u=\\v.v+g");
        Check.due("told(1)", most.told(1), 22);
        Check.due("binder(11)", Check.written(most, most.binder(11)), "Num");
        Check.due("binder(17)", Check.written(most, most.binder(17)), "Num");
        Check.due("binder(18)", Check.written(most, most.binder(18)), "a");
        Check.due("binder(31)", Check.written(most, most.binder(31)), "a");
        Check.due("binder(32)", Check.written(most, most.binder(32)), "Num");
    }

    @Sentence(promise = 13, says = REFUSED)
    static void noSuchBinder() {
        ConflictPlaces x = Check.of("f y=y");
        Check.due("binder(12)", x.binder(12), 1);
        int[] wrong = {-1, 0, 1, 10, 13, 14, 32, 33, Integer.MIN_VALUE, Integer.MAX_VALUE};
        for (int b : wrong) {
            Check.due("binder(" + b + ")", x.binder(b), Check.BAD);
        }
        Check.due("THE OUT stays", Check.out(x), "a");
        Check.due("binder(11) without a text", new ConflictPlaces().binder(11), Check.BAD);
        ConflictPlaces most = Check.of("a=1;b=1;c=1;d=1;e=1;f g h i j k l m n o p q r s t u v=v");
        Check.due("binder(33) of 22", most.binder(33), Check.BAD);
        Check.due("binder(32) of 22", most.binder(32), 1);
    }

    @Sentence(promise = 13, says = REFUSED)
    static void textDoesNotFit() {
        ConflictPlaces x = Check.of("f=\"\"");
        x.binder(11);
        Check.read(x, "g y=y;f=1+\"\"");
        for (int b = 11; b < 14; b++) {
            Check.due("binder(" + b + ")", x.binder(b), Check.NO);
        }
        Check.due("binder(14)", x.binder(14), Check.BAD);
        Check.due("binder(10)", x.binder(10), Check.BAD);
        Check.due("THE OUT stays", Check.out(x), "Text");
    }

    @Sentence(promise = 13, says = REFUSED)
    static void threeHundredAndOneMore() {
        ConflictPlaces most = Check.of(LONG + "f=[[[[(e,\"\")]]]]");
        Check.due("a type of 300", most.binder(16), 300);
        Check.due("out(299)", most.out(299), ']');
        ConflictPlaces more = Check.of(LONG + "f=[[[[[(e,1)]]]]]");
        Check.due("binder(11)", more.binder(11), 15);
        Check.due("a type of 301", more.binder(16), Check.FULL);
        Check.due("THE OUT stays", Check.out(more), "((Num,Num),Num)");
    }
}
