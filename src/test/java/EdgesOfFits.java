/** Promise 7. */
final class EdgesOfFits {
    private EdgesOfFits() {
    }

    private static void fits(String text, int want) {
        Check.due("fits() of " + text, Check.of(text).fits(), want);
    }

    @Sentence(promise = 7, says = "Whether the text FITS: 1, 0.")
    static void leastAndMostText() {
        fits("f=1", 1);
        fits("f=f", 1);
        fits("f=[]", 1);
        fits("f=[1" + Check.times(",1", 78) + "]", 1);
        fits("f=[1" + Check.times(",1", 77) + ",\"\"]", 0);
        fits("f=[\"\"" + Check.times(",1", 78) + "]", 0);
        String most = "a b c d e=1;f b c d e=1;g b c d e=1;h b c d e=1;i=[1" + Check.times(",1", 71) + "];j=1+";
        fits(most + "2", 1);
        fits(most + "a", 0);
    }

    /** A type that would be a part of itself, at once or by way of others, is none. */
    @Sentence(promise = 7, says = "Types are Num, Bool, Text, lists [t], pairs (t,u), functions t -> u, all finite.")
    static void endlessTypes() {
        fits("f=f", 1);
        fits("f=[f]", 0);
        fits("f=(f,1)", 0);
        fits("f=(1,f)", 0);
        fits("f x=f", 0);
        fits("f=\\x.f", 0);
        fits("f x=x x", 0);
        fits("f x=x:x", 0);
        fits("f x=[x]++x", 0);
        fits("a=b;b=c;c=d;d=e;e=a", 1);
        fits("a=b;b=c;c=d;d=e;e=[a]", 0);
        fits("f=" + Check.times("[", 20) + "f" + Check.times("]", 20), 0);
        fits("f=" + Check.times("[", 20) + "1" + Check.times("]", 20), 1);
    }

    /** An endless type leaves nothing behind that the next asking could stumble over. */
    @Sentence(promise = 7, says = "Whether the text FITS: 1, 0.")
    static void fittingTextBehindEndlessOne() {
        ConflictPlaces x = Check.of("g x=x;f=(g,f)");
        Check.due("fits() of an endless one", x.fits(), 0);
        Check.due("the rules of g alone", x.conflict(0, 1), 0);
        Check.due("fits() once more", x.fits(), 0);
        Check.read(x, "f x=x");
        Check.due("fits() behind it", x.fits(), 1);
        Check.read(x, "f x=x x");
        Check.due("fits() of an endless one", x.fits(), 0);
        Check.read(x, "f x=x");
        Check.due("fits() behind it", x.fits(), 1);
    }

    /** A text that fits of types that are far too long to be written. */
    @Sentence(promise = 7, says = "Whether the text FITS: 1, 0.")
    static void hugeTypes() {
        String pairs = "a=(1,1);b=((a,a),(a,a));c=((b,b),(b,b));d=((c,c),(c,c));e=((d,d),(d,d));f=";
        fits(pairs + "(e,e)==(e,e)", 1);
        fits(pairs + "(e,e)==(e,d)", 0);
    }

    @Sentence(promise = 7, says = "STATE: there is none.")
    static void noText() {
        ConflictPlaces x = new ConflictPlaces();
        Check.due("fits() of a new object", x.fits(), Check.STATE);
        Check.feed(x, "f = 1");
        Check.due("fits() before read()", x.fits(), Check.STATE);
        x.read();
        Check.due("fits() behind read()", x.fits(), 1);
        ConflictPlaces faulty = new ConflictPlaces();
        Check.read(faulty, "f = ");
        Check.due("fits() behind a fault", faulty.fits(), Check.STATE);
        faulty.read();
        Check.due("fits() behind two faults", faulty.fits(), Check.STATE);
        Check.read(x, "f = ");
        Check.due("fits() of the text before", x.fits(), 1);
    }
}
