/** Promise 8. */
public final class ConflictTest {
    public static void main(String[] args) {
        ConflictPlaces x = Check.of("f x = x + 1; g = f 2 \"a\"");
        // f's type, the sum is Num, f's NAME, and both CALLS: from 0 to 10.
        Check.due("conflict(0, 11)", x.conflict(0, 11), 1);
        Check.due("conflict(0, 10)", x.conflict(0, 10), 1);
        Check.due("conflict(0, 9)", x.conflict(0, 9), 0);
        Check.due("conflict(1, 11)", x.conflict(1, 11), 0);
        for (int r = 0; r < 12; r++) {
            Check.due("conflict(" + r + ", " + r + ")", x.conflict(r, r), 0);
        }
        Check.due("told(4)", x.told(4), 0);
        oneRuleByItself();
        wrongNumbers(x);
        Check.end();
    }

    private static void oneRuleByItself() {
        // The type of f is that of x -> that of f: its body is f itself only by the second rule.
        ConflictPlaces x = Check.of("f x = f");
        Check.due("conflict(0, 0) of f x = f", x.conflict(0, 0), 0);
        Check.due("conflict(1, 1) of f x = f", x.conflict(1, 1), 0);
        Check.due("conflict(0, 1) of f x = f", x.conflict(0, 1), 1);
        ConflictPlaces y = Check.of("f = id 1");
        Check.due("conflict(0, 3) of f = id 1", y.conflict(0, 3), 0);
    }

    private static void wrongNumbers(ConflictPlaces x) {
        int[] wrong = {-1, 12, 13, 160, Integer.MIN_VALUE, Integer.MAX_VALUE};
        for (int r : wrong) {
            Check.due("conflict(" + r + ", 11)", x.conflict(r, 11), Check.BAD);
            Check.due("conflict(0, " + r + ")", x.conflict(0, r), Check.BAD);
            Check.due("conflict(" + r + ", " + r + ")", x.conflict(r, r), Check.BAD);
        }
        Check.due("conflict(5, 4)", x.conflict(5, 4), Check.BAD);
        Check.due("conflict(11, 0)", x.conflict(11, 0), Check.BAD);
    }
}
