/** Promise 9: SETS one behind the other, in pieces of WORK. */
public final class SearchTest {
    /** Rules 0 f, 1 the pair, 2 a number, 3 to 5 the sign, 6 a text; likewise 7 to 11. */
    private static final String TWO = "f = (1 + \"\", 2 + \"\")";

    public static void main(String[] args) {
        wholeSearch();
        piecesOfWork();
        fittingText();
        lastRulesGoFirst();
        emptyPool();
        wrongNumbers();
        Check.end();
    }

    private static void wholeSearch() {
        ConflictPlaces x = Check.of(TWO);
        Check.due("read", x.told(3), 12);
        Check.due("search(2000)", x.search(2000), 2);
        Check.due("told(6)", x.told(6), 1);
        Check.due("told(4)", x.told(4), (1 + 12) + (1 + 10) + 1);
        Check.due("first set", Check.setOf(x, 0), "4 6");
        Check.due("second set", Check.setOf(x, 1), "9 11");
        Check.due("search(2000) once more", x.search(2000), 2);
        Check.due("told(4)", x.told(4), 25);
    }

    private static void piecesOfWork() {
        for (int piece = 1; piece <= 26; piece++) {
            ConflictPlaces x = Check.of(TWO);
            for (int done = piece; done - piece < 25; done += piece) {
                int want = done < 13 ? 0 : done < 24 ? 1 : 2;
                Check.due("search(" + piece + ") up to " + done, x.search(piece), want);
                Check.due("told(4)", x.told(4), Math.min(done, 25));
                Check.due("told(5)", x.told(5), want);
                Check.due("told(6)", x.told(6), done < 25 ? 0 : 1);
                x.fits();
                x.conflict(0, 3);
                x.changes();
                x.without(0, 0);
            }
            Check.due("first set", Check.setOf(x, 0), "4 6");
            Check.due("second set", Check.setOf(x, 1), "9 11");
        }
    }

    private static void fittingText() {
        ConflictPlaces x = Check.of("f = 1");
        Check.due("told(6) before it is asked", x.told(6), 0);
        Check.due("search(1)", x.search(1), 0);
        Check.due("told(4)", x.told(4), 1);
        Check.due("told(6)", x.told(6), 1);
        Check.due("search(5)", x.search(5), 0);
        Check.due("told(4)", x.told(4), 1);
    }

    /** Of two numbers that are each enough, the one that stands first is kept. */
    private static void lastRulesGoFirst() {
        ConflictPlaces x = Check.of("f = [\"\", 1, 2]");
        // 0 f, 1 the list, 2 first E, 3 the text, 4 and 6 the next ones, 5 and 7 the numbers
        Check.due("search(2000)", x.search(2000), 1);
        Check.due("set", Check.setOf(x, 0), "2 3 4 5");
        Check.due("told(4)", x.told(4), 1 + 8 + 1);
    }

    /** Both rules are in the first SET; that there are no more is still asked once. */
    private static void emptyPool() {
        ConflictPlaces x = Check.of("f x = f");
        Check.due("search(3)", x.search(3), 1);
        Check.due("told(6)", x.told(6), 0);
        Check.due("search(1)", x.search(1), 1);
        Check.due("told(4)", x.told(4), 4);
        Check.due("told(6)", x.told(6), 1);
    }

    private static void wrongNumbers() {
        ConflictPlaces x = Check.of(TWO);
        int[] wrong = {0, -1, 2001, Integer.MIN_VALUE, Integer.MAX_VALUE};
        for (int work : wrong) {
            Check.due("search(" + work + ")", x.search(work), Check.BAD);
            Check.due("search(" + work + ") without a text", new ConflictPlaces().search(work), Check.BAD);
        }
        Check.due("told(4)", x.told(4), 0);
        Check.due("search(1) without a text", new ConflictPlaces().search(1), Check.STATE);
    }
}
