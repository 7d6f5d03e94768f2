/** Promise 4. */
final class EdgesOfTold {
    private static final String COUNTS = "How many: 0 DECLS, 1 BINDERS, 2 nodes, 3 rules (0 without a text); 4 WORK done"
        + " since read(), 5 SETS found, 6 1 if all are; 7 bytes of THE TAPE.";

    private EdgesOfTold() {
    }

    private static void counts(ConflictPlaces x, int decls, int binders, int nodes, int rules) {
        Check.due("told(0)", x.told(0), decls);
        Check.due("told(1)", x.told(1), binders);
        Check.due("told(2)", x.told(2), nodes);
        Check.due("told(3)", x.told(3), rules);
    }

    @Sentence(promise = 4, says = COUNTS)
    static void withoutText() {
        ConflictPlaces x = new ConflictPlaces();
        counts(x, 0, 0, 0, 0);
        Check.feed(x, "f y = y");
        counts(x, 0, 0, 0, 0);
        ConflictPlaces faulty = new ConflictPlaces();
        Check.read(faulty, "f y = y; g = z");
        counts(faulty, 0, 0, 0, 0);
        Check.due("told(4)", faulty.told(4), 0);
        Check.due("told(5)", faulty.told(5), 0);
        Check.due("told(6)", faulty.told(6), 0);
    }

    @Sentence(promise = 4, says = COUNTS)
    static void leastAndMost() {
        counts(Check.of("f=1"), 1, 1, 1, 2);
        counts(Check.of("a b c d e=1;f b c d e=1;g b c d e=1;h b c d e=1;i=[1" + Check.times(",1", 73) + "];j=1"), 6, 22, 80, 160);
    }

    @Sentence(promise = 4, says = COUNTS)
    static void workSinceRead() {
        ConflictPlaces x = Check.of("f = 1 + \"\"");
        Check.due("told(4) before any", x.told(4), 0);
        x.search(1);
        Check.due("told(4)", x.told(4), 1);
        x.search(0);
        x.search(2001);
        Check.due("told(4) behind refused searches", x.told(4), 1);
        x.fits();
        x.conflict(0, 5);
        x.without(0, 0);
        x.changes();
        x.mended(0, 11);
        Check.due("told(4) behind other calls", x.told(4), 1);
        x.search(2000);
        Check.due("told(4): 1 + 6, then 1", x.told(4), 8);
        x.search(2000);
        Check.due("told(4) when all SETS are found", x.told(4), 8);
        Check.read(x, "g = )");
        Check.due("told(4) behind a fault", x.told(4), 8);
        Check.read(x, "g = 1");
        Check.due("told(4) behind read()", x.told(4), 0);
    }

    @Sentence(promise = 4, says = COUNTS)
    static void setsFoundAndAllOfThem() {
        ConflictPlaces x = Check.of("f = 1 + \"\"");
        int[] found = {0, 0, 0, 0, 0, 0, 1, 1};
        for (int work = 1; work <= 8; work++) {
            Check.due("told(6) before WORK " + work, x.told(6), 0);
            x.search(1);
            Check.due("told(5) behind WORK " + work, x.told(5), found[work - 1]);
        }
        Check.due("told(6)", x.told(6), 1);
        ConflictPlaces fitting = Check.of("f = 1");
        Check.due("told(6) of a text that fits, before it is asked", fitting.told(6), 0);
        fitting.search(1);
        Check.due("told(5) of a text that fits", fitting.told(5), 0);
        Check.due("told(6) of a text that fits", fitting.told(6), 1);
    }

    @Sentence(promise = 4, says = COUNTS)
    static void bytesOfTheTape() {
        ConflictPlaces x = new ConflictPlaces();
        Check.due("told(7) of an empty tape", x.told(7), 0);
        x.feed(1, 'f');
        Check.due("told(7)", x.told(7), 1);
        Check.feed(x, Check.times(" ", 239));
        Check.due("told(7) of a full tape", x.told(7), 240);
        x.feed(1, ' ');
        Check.due("told(7) behind FULL", x.told(7), 240);
        x.feed(0, ' ');
        Check.due("told(7) behind BAD", x.told(7), 240);
        x.read();
        Check.due("told(7) behind read()", x.told(7), 0);
    }

    @Sentence(promise = 4, says = "BAD.")
    static void noSuchWhat() {
        ConflictPlaces x = Check.of("f = 1");
        int[] wrong = {-1, 8, 9, 256, Integer.MIN_VALUE, Integer.MAX_VALUE};
        for (int what : wrong) {
            Check.due("told(" + what + ")", x.told(what), Check.BAD);
            Check.due("told(" + what + ") without a text", new ConflictPlaces().told(what), Check.BAD);
        }
        Check.due("told(0)", x.told(0), 1);
        Check.due("told(7)", x.told(7), 0);
    }
}
