/** What the tests share: they feed texts, print every answer that is not due, and end with 1 if there was one. */
final class Check {
    static final int BAD = -1, STATE = -2, NO = -3, FULL = -4, NONE = -9;
    private static int wrong;

    private Check() {
    }

    static void due(String call, long got, long want) {
        if (got != want) {
            wrong++;
            System.out.println(call + " answered " + got + ", due is " + want);
        }
    }

    static void due(String call, String got, String want) {
        if (!got.equals(want)) {
            wrong++;
            System.out.println(call + " gave '" + got + "', due is '" + want + "'");
        }
    }

    /** Feeds each character as one byte, in as few calls as can be: an object has 512 of them. */
    static void feed(ConflictPlaces x, String text) {
        int had = x.told(7);
        for (int from = 0; from < text.length(); from += 8) {
            int n = Math.min(8, text.length() - from);
            long bytes = 0;
            for (int i = 0; i < n; i++) {
                bytes |= (long) text.charAt(from + i) << 8 * i;
            }
            due("feed of " + n + " bytes of " + text, x.feed(n, bytes), had + from + n);
        }
    }

    static int read(ConflictPlaces x, String text) {
        feed(x, text);
        return x.read();
    }

    /** A new object that has read a text. */
    static ConflictPlaces of(String text) {
        ConflictPlaces x = new ConflictPlaces();
        int rules = read(x, text);
        if (rules < 0) {
            due("read of " + text, rules, 0);
        }
        return x;
    }

    /** THE OUT, whole. */
    static String out(ConflictPlaces x) {
        StringBuilder b = new StringBuilder();
        int next = x.out(0);
        for (int i = 1; i <= 301 && next != NONE; i++) {
            b.append((char) next);
            next = x.out(i);
        }
        return b.toString();
    }

    /** What a call that writes THE OUT wrote, or the number with which it refused. */
    static String written(ConflictPlaces x, int answer) {
        if (answer < 0) {
            return Integer.toString(answer);
        }
        String out = out(x);
        due("how many bytes " + out + " has", answer, out.length());
        return out;
    }

    static String setOf(ConflictPlaces x, int set) {
        StringBuilder b = new StringBuilder();
        int size = x.set(set, -1);
        for (int i = 0; i < size; i++) {
            b.append(i == 0 ? "" : " ").append(x.set(set, i));
        }
        return b.toString();
    }

    /** All that is OFFERED: sort, node, meaning, cost of each. */
    static String offered(ConflictPlaces x) {
        StringBuilder b = new StringBuilder();
        int count = x.changes();
        for (int i = 0; i < count; i++) {
            b.append(i == 0 ? "" : " ");
            for (int what = 0; what < 4; what++) {
                b.append(what == 0 ? "" : ",").append(x.change(i, what));
            }
        }
        return b.toString();
    }

    static String times(String part, int count) {
        return part.repeat(count);
    }

    /** How many answers were not due so far. */
    static int wrong() {
        return wrong;
    }

    static void end() {
        if (wrong > 0) {
            System.exit(1);
        }
    }
}
