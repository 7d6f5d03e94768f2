import java.util.Random;

/** No call throws, whatever its numbers are; the same calls give the same answers; refusals change nothing. */
public final class ManyCallsTest {
    private static final String[] TEXTS = {
        "f x = x + 1; g = f \"a\"", "f = not 1", "f x = x x", "f = [1, \"\", true]", "f = 1", "f = )", "f = \\x.y",
        "map f x = if null x then [] else f (head x) : map f (tail x); g = map not 1",
        "f x y = (x, y) == (y, 1); g = f [] (\\z.z ++ [2] + 1)", "\u00ff\u0000", "f = \"", "(((((((",
        "a=(1,1);b=(a,a);c=(b,b);d=(c,c);e=(d,d);f=((e,e),1+\"\")",
    };

    public static void main(String[] args) {
        for (int seed = 0; seed < 1000; seed++) {
            run(seed);
        }
        dearestTexts();
        Check.end();
    }

    /** Two objects, of which only one gets the calls that are refused: all else is answered alike. */
    private static void run(int seed) {
        Random random = new Random(seed);
        ConflictPlaces x = new ConflictPlaces();
        ConflictPlaces same = new ConflictPlaces();
        for (int i = 0; i < 300; i++) {
            if (random.nextInt(30) == 0) {
                readBoth(x, same, TEXTS[random.nextInt(TEXTS.length)]);
            }
            int call = random.nextInt(17);
            int a = number(random);
            int b = number(random);
            int answer = call(x, call, a, b);
            boolean refused = answer <= -1 && answer >= -4;
            if (!refused) {
                Check.due("call " + call + " once more elsewhere", call(same, call, a, b), answer);
            }
        }
        for (int what = 0; what < 8; what++) {
            Check.due("told(" + what + ") elsewhere", same.told(what), x.told(what));
        }
        for (int i = 0; i < 20; i++) {
            Check.due("out(" + i + ") elsewhere", same.out(i), x.out(i));
        }
    }

    private static void readBoth(ConflictPlaces x, ConflictPlaces same, String text) {
        // What random calls have fed is no part of the text.
        Check.due("read() of what there is", x.read(), same.read());
        Check.feed(x, text);
        Check.feed(same, text);
        Check.due("read() of " + text, x.read(), same.read());
    }

    private static int number(Random random) {
        switch (random.nextInt(8)) {
            case 0:
                return random.nextInt();
            case 1:
                return random.nextBoolean() ? Integer.MIN_VALUE : Integer.MAX_VALUE;
            case 2:
                return 11 + random.nextInt(4);
            case 3:
                return -random.nextInt(12);
            default:
                return random.nextInt(12);
        }
    }

    private static int call(ConflictPlaces x, int call, int a, int b) {
        switch (call) {
            case 0:
                return x.feed(a, (long) a * b);
            case 1:
                return x.told(a);
            case 2:
                return x.node(a, b);
            case 3:
                return x.rule(a);
            case 4:
                return x.fits();
            case 5:
                return x.conflict(a, b);
            case 6:
                return x.search(a);
            case 7:
                return x.set(a, b);
            case 8:
                return x.less(a, b);
            case 9:
                return x.type(a);
            case 10:
                return x.binder(a);
            case 11:
                return x.without(a, b);
            case 12:
                return x.changes();
            case 13:
                return x.change(a, b);
            case 14:
                return x.mended(a, b);
            case 15:
                return x.out(a);
            default:
                return x.search(1 + (a & 15));
        }
    }

    /** Texts with as many nodes, NAMES and rules as there can be. */
    private static void dearestTexts() {
        String names = "f a b c d e g h i j k l m n o p q=";
        String[] texts = {
            names + "[1" + Check.times(",a", 78) + "]",
            names + "[a" + Check.times(",a", 75) + ",a+\"\"]",
            names + "a" + Check.times(":a", 39),
            names + "a" + Check.times("++a", 39),
            names + "a" + Check.times(" a", 39),
            "f=[fst" + Check.times(",snd", 55) + "]",
            "f=[" + Check.times("id,", 72) + "1,\"\"]",
        };
        for (String text : texts) {
            ConflictPlaces x = Check.of(text);
            for (int i = 0; i < 20; i++) {
                x.search(2000);
            }
            Check.due("told(6) of " + text, x.told(6), 1);
            int count = x.changes();
            for (int i = 0; i < Math.min(count, 400); i++) {
                Check.due("mended of " + text, x.mended(i, 11) >= Check.FULL ? 1 : 0, 1);
            }
        }
    }
}
