/** Promise 3: what is read, and what stays; EdgesOfFault tells where THE FAULT is. */
final class EdgesOfRead {
    private static final String READ =
        "THE TAPE is used up, and read as a text: how many rules; no SET is found then.";
    private static final String FAULT = "-10 less the place of THE FAULT: the text before stays, with its SETS.";

    private EdgesOfRead() {
    }

    @Sentence(promise = 3, says = READ)
    static void emptyTape() {
        ConflictPlaces x = new ConflictPlaces();
        Check.due("read() of an empty tape", x.read(), -10);
        Check.due("read of f = 1", Check.read(x, "f = 1"), 2);
        Check.due("read() behind it: THE TAPE is used up", x.read(), -10);
    }

    @Sentence(promise = 3, says = READ)
    static void tapeIsUsedUpByAnyText() {
        ConflictPlaces x = new ConflictPlaces();
        Check.read(x, "f = )");
        Check.due("told(7) behind a fault", x.told(7), 0);
        Check.due("read of g = 1 behind a fault", Check.read(x, "g = 1"), 2);
        Check.due("told(7)", x.told(7), 0);
        Check.due("read of h = 1; i = 2", Check.read(x, "h = 1; i = 2"), 4);
    }

    @Sentence(promise = 3, says = READ)
    static void shortestText() {
        Check.due("read of f=1", Check.read(new ConflictPlaces(), "f=1"), 2);
        Check.due("read of f=f", Check.read(new ConflictPlaces(), "f=f"), 2);
    }

    @Sentence(promise = 3, says = READ)
    static void longestTextsAndMostRules() {
        String numbers = "f=[1" + Check.times(",1", 78) + "]";
        Check.due("80 nodes of a list", Check.read(new ConflictPlaces(), numbers), 160);
        Check.due("240 bytes", Check.read(new ConflictPlaces(), numbers + Check.times("\n", 240 - numbers.length())), 160);
        String sums = "f=1" + Check.times("+1", 38) + ";g=1+1";
        Check.due("80 nodes of sums", Check.read(new ConflictPlaces(), sums), 160);
        String longNames = "abcdefgh=" + Check.times("abcdefgh ", 25) + "abcdef";
        Check.due("bytes of a text", longNames.length(), 240);
        Check.due("its last NAME means nothing", Check.read(new ConflictPlaces(), longNames), -244);
        Check.due("240 bytes of NAMES", Check.read(new ConflictPlaces(), longNames.substring(0, 234) + "      "), 50);
        String tokens = "f=[((1))(1)" + Check.times(",(1)", 57) + "]";
        Check.due("bytes of a text", tokens.length(), 240);
        Check.due("240 TOKENS", Check.read(new ConflictPlaces(), tokens), 120);
    }

    @Sentence(promise = 3, says = READ)
    static void noSetIsFoundThen() {
        ConflictPlaces x = Check.of("f = 1 + \"\"");
        Check.due("search(2000)", x.search(2000), 1);
        Check.due("read of the same text", Check.read(x, "f = 1 + \"\""), 6);
        Check.due("told(4)", x.told(4), 0);
        Check.due("told(5)", x.told(5), 0);
        Check.due("told(6)", x.told(6), 0);
        Check.due("set(0, -1)", x.set(0, -1), Check.BAD);
        Check.due("less(0, 0)", x.less(0, 0), Check.BAD);
        Check.due("search(2000)", x.search(2000), 1);
    }

    /** A search that is half done is begun anew with the next text. */
    @Sentence(promise = 3, says = READ)
    static void readAmidSearch() {
        for (int work = 1; work < 8; work++) {
            ConflictPlaces x = Check.of("f = 1 + \"\"");
            x.search(work);
            Check.read(x, "g = [true, 1]; h = 2");
            Check.due("told(4)", x.told(4), 0);
            Check.due("told(5)", x.told(5), 0);
            Check.due("search(8)", x.search(8), 0);
            Check.due("search(1)", x.search(1), 1);
            Check.due("set", Check.setOf(x, 0), "2 3 4 5");
            Check.due("told(4)", x.told(4), 9);
        }
    }

    /** What one object reads is held against the limits text by text: none of them is used up. */
    @Sentence(promise = 3, says = READ)
    static void limitsBeginAnew() {
        String decls = "a=1;b=1;c=1;d=1;e=1;f=1";
        String names = "f a b c d e g h i j k l m n o p q=1";
        String deep = "f=" + Check.times("(", 20) + "1" + Check.times(")", 20);
        String nodes = "f=[1" + Check.times(",1", 78) + "]";
        ConflictPlaces x = new ConflictPlaces();
        for (int turn = 0; turn < 4; turn++) {
            Check.due("six DECLS, turn " + turn, Check.read(x, decls), 12);
            Check.due("sixteen NAMES, turn " + turn, Check.read(x, names), 2);
            Check.due("20 deep, turn " + turn, Check.read(x, deep), 2);
            Check.due("80 nodes, turn " + turn, Check.read(x, nodes), 160);
        }
        ConflictPlaces y = new ConflictPlaces();
        for (int turn = 0; turn < 4; turn++) {
            Check.due("seven DECLS, turn " + turn, Check.read(y, decls + ";g=1"), -34);
            Check.due("six DECLS, turn " + turn, Check.read(y, decls), 12);
            Check.due("sixteen NAMES, too early, turn " + turn, Check.read(y, names.substring(0, 34)), -44);
            Check.due("sixteen NAMES, turn " + turn, Check.read(y, names), 2);
            Check.due("20 deep, too early, turn " + turn, Check.read(y, deep.substring(0, 22)), -32);
            Check.due("20 deep, turn " + turn, Check.read(y, deep), 2);
        }
    }

    @Sentence(promise = 3, says = FAULT)
    static void firstAndLastPlace() {
        Check.due("a fault at the first byte", Check.read(new ConflictPlaces(), "=1"), -10);
        Check.due("a fault at the last byte", Check.read(new ConflictPlaces(), "f=1" + Check.times(" ", 236) + ")"), -249);
        Check.due("a fault behind the last byte", Check.read(new ConflictPlaces(), "f=1" + Check.times(" ", 236) + "+"), -250);
    }

    @Sentence(promise = 3, says = FAULT)
    static void noTextBefore() {
        ConflictPlaces x = new ConflictPlaces();
        Check.due("read of f x = y", Check.read(x, "f x = y"), -16);
        for (int what = 0; what < 8; what++) {
            Check.due("told(" + what + ")", x.told(what), 0);
        }
        Check.due("fits()", x.fits(), Check.STATE);
        Check.due("search(1)", x.search(1), Check.STATE);
        Check.due("changes()", x.changes(), Check.STATE);
        Check.due("binder(11)", x.binder(11), Check.BAD);
    }

    /** Faults of each kind, one behind the other: the text of before is still there. */
    @Sentence(promise = 3, says = FAULT)
    static void textBeforeStays() {
        String text = "f x = x + 1; g = f true";
        ConflictPlaces x = new ConflictPlaces();
        Check.read(x, "h = 1");
        Check.read(x, text);
        x.search(2000);
        String before = seen(x);
        String[] faulty = {"", "k", "k = ", "k = A", "k = l", "k k k = 1", "id = 1", "a=1;b=1;c=1;d=1;e=1;f=1;g=1"};
        for (String other : faulty) {
            Check.due("a fault of " + other, Check.read(x, other) <= -10 ? 1 : 0, 1);
            Check.due("fits() behind " + other, x.fits(), 0);
        }
        Check.due("what is seen behind faults", seen(x), before);
        Check.due("types behind faults", Check.written(x, x.without(0, 3)), "Bool -> a");
    }

    @Sentence(promise = 3, says = FAULT)
    static void setsStay() {
        ConflictPlaces x = Check.of("f = (1 + \"\", 2 + \"\")");
        Check.due("search(13)", x.search(13), 1);
        Check.due("read()", x.read(), -10);
        Check.due("told(4)", x.told(4), 13);
        Check.due("told(5)", x.told(5), 1);
        Check.due("told(6)", x.told(6), 0);
        Check.due("first set", Check.setOf(x, 0), "4 6");
        Check.due("less(0, 1)", x.less(0, 1), 0);
        x.search(5);
        Check.read(x, "f = 1 + ");
        Check.due("search(6)", x.search(6), 2);
        Check.due("second set", Check.setOf(x, 1), "9 11");
        Check.due("search(1)", x.search(1), 2);
        Check.due("told(6)", x.told(6), 1);
        Check.due("read()", x.read(), -10);
        Check.due("told(6) behind a fault", x.told(6), 1);
    }

    private static String seen(ConflictPlaces x) {
        StringBuilder b = new StringBuilder();
        for (int what = 0; what < 8; what++) {
            b.append(x.told(what)).append(' ');
        }
        for (int n = 0; n < x.told(2); n++) {
            b.append(x.node(n, 0)).append(',').append(x.node(n, 1)).append(',').append(x.node(n, 2)).append(' ');
        }
        for (int r = 0; r < x.told(3); r++) {
            b.append(x.rule(r)).append(' ');
        }
        return b.append("set ").append(Check.setOf(x, 0)).append(' ').append(Check.offered(x)).toString();
    }
}
