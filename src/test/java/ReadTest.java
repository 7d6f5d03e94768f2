/** Promise 3: how many rules, THE FAULT, and what stays behind a faulty text. */
public final class ReadTest {
    public static void main(String[] args) {
        readable();
        tokenFaults();
        grammarFaults();
        nameFaults();
        declLimit();
        innerLimit();
        nodeLimit();
        depthLimit();
        textsBehindLongerOnes();
        faultyTextChangesNothing();
        Check.end();
    }

    private static void due(String text, int want) {
        Check.due("read of " + text, Check.read(new ConflictPlaces(), text), want);
    }

    private static void fault(String text, int place) {
        due(text, -10 - place);
    }

    private static void readable() {
        due("f = 1", 2);
        due("f=1", 2);
        due("\n f\n=\n1 \n", 2);
        due("f = 123456", 2);
        due("abcdefgh = 1", 2);
        due("a1b2c3d4 = \"12345678\"", 2);
        due("f = \"\"", 2);
        due("f = \" !#~;=\"", 2);
        due("f x y = x", 2);
        due("f = 12id 3", 6);
        due("f = []", 2);
        due("f = [1]", 4);
        due("f = [1,2]", 6);
        due("f = (1,2)", 4);
        due("f = ((1))", 2);
        due("f = if true then 1 else 2", 7);
        due("f = \\x.\\y.x", 4);
        due("f = true && false", 6);
        due("f = 1 == 2", 5);
        due("f = 1 < 2", 6);
        due("f = 1 : []", 5);
        due("f = 1 + 2", 6);
        due("f = [] ++ []", 6);
        due("f=[]++[]+1", 10);
        due("f = 1 + 2 == 3 : 4 && 5 < 6", 20);
        due("f = id id id", 6);
        due("f id = \\id.id; g f = f", 5);
        due("f f = f", 2);
        due("f = \\x.\\x.x", 4);
        due("f = g; g = f", 4);
    }

    private static void tokenFaults() {
        fault("f = A", 4);
        fault("f = aB", 5);
        fault("f = \t1", 4);
        fault("f\r= 1", 1);
        fault("f = \u00801", 4);
        fault("\u00ff", 0);
        fault("f = 1 & 1", 6);
        fault("f = 1 &", 6);
        fault("f = 1 - 1", 6);
        fault("f = 1 > 1", 6);
        fault("f = x_y", 5);
        fault("abcdefghi = 1", 0);
        fault("f = abcdefghi", 4);
        fault("f = ifthenelse", 4);
        fault("f = 1234567", 4);
        fault("f = \"123456789\"", 4);
        fault("f = \"abc", 4);
        fault("f = \"", 4);
        fault("f = \"a\nb\"", 4);
        fault("f = \"a\u007fb\"", 4);
        fault("f = \"a\u00e4b\"", 4);
        // A token that can't stand comes ahead of one that is wrong in itself.
        fault("f = ) A", 4);
        fault("f f2 & = 1", 5);
    }

    private static void grammarFaults() {
        fault("", 0);
        fault(" ", 1);
        fault("\n\n \n", 4);
        fault("f", 1);
        fault("f x", 3);
        fault("f = ", 4);
        fault("f = 1;", 6);
        fault("f = 1 ; ", 8);
        fault("f = 1 +", 7);
        fault("f = (1", 6);
        fault("f = (1,", 7);
        fault("f = (1,2", 8);
        fault("f = [1", 6);
        fault("f = [", 5);
        fault("f = \\", 5);
        fault("f = \\x", 6);
        fault("f = \\x.", 7);
        fault("f = if", 6);
        fault("f = if 1 then 2", 15);
        fault("= 1", 0);
        fault("; f = 1", 0);
        fault("1 = f", 0);
        fault("if = 1", 0);
        fault("f then = 1", 2);
        fault("f 1 = 1", 2);
        fault("f == 1", 2);
        fault("f === 1", 2);
        fault("f = = 1", 4);
        fault("f = 1 = 2", 6);
        fault("f = 1 ; ; g = 2", 8);
        fault("f = ()", 5);
        fault("f = (,1)", 5);
        fault("f = (1,)", 7);
        fault("f = (1,2,3)", 8);
        fault("f = (1]", 6);
        fault("f = [,1]", 5);
        fault("f = [1,]", 7);
        fault("f = [1 , 2)", 10);
        fault("f = 1)", 5);
        fault("f = 1,2", 5);
        fault("f = + 1", 4);
        fault("f = 1 + + 2", 8);
        fault("f = 1 +++ 2", 8);
        fault("f = 1 ++", 8);
        fault("f = 1 &&", 8);
        fault("f = 1 ==", 8);
        fault("f = (1 = , 2)", 7);
        fault("f = (1 : , 2)", 9);
        fault("f = ([1 ; , 2)", 8);
        fault("f = 1 == 2 == 3", 11);
        fault("f = 1 < 2 == 3", 10);
        fault("f = 1 == 2 : 3 < 4", 15);
        fault("f = 1 + \\x.x", 8);
        fault("f = id \\x.x", 7);
        fault("f = 1 : if 1 then 2 else 3", 8);
        fault("f = \\x x", 7);
        fault("f = \\1.x", 5);
        fault("f = \\x y.x", 7);
        fault("f = \\if.1", 5);
        fault("f = if 1 else 2", 9);
        fault("f = if then 2", 7);
        fault("f = 1 then 2", 6);
        fault("f = 1 . 2", 6);
    }

    private static void nameFaults() {
        fault("f = x", 4);
        fault("f x = 1; g = x", 13);
        fault("f = (\\x.x) x", 11);
        fault("f = f; f = 1", 7);
        fault("id = 1", 0);
        fault("show x = 1", 0);
        fault("f x x = 1", 4);
        fault("f x y x = x", 6);
        fault("f x = y; f = 1", 6);
        fault("f = 1; id = y", 7);
        fault("f = 1; g x x = y; f = 2", 11);
        // Names are held against their meaning only if every token can stand.
        fault("f = x )", 6);
        fault("id x x = y; g", 13);
    }

    private static void declLimit() {
        String six = "a=1;b=1;c=1;d=1;e=1;f=1";
        due(six, 12);
        fault(six + ";g=1", 24);
        fault(six + ";", 24);
        fault(six + "; =", 25);
        fault(six + ";g=1;h=1", 24);
    }

    private static void innerLimit() {
        String sixteen = "f a b c d e g h i j k l m n o p q";
        due(sixteen + " = 1", 2);
        fault(sixteen + " r = 1", sixteen.length() + 1);
        fault(sixteen + " = \\r.1", sixteen.length() + 4);
        fault(sixteen + "; r = 1", sixteen.length());
        fault(sixteen + " = 1; r s = 1", sixteen.length() + 8);
        due(sixteen + " = 1; r = 1", 4);
        String apart = "f a b c d e g = \\h.\\i.1; k a b c d e = \\f.\\g.\\h.1";
        due(apart, 9);
        fault(apart + "; l m = 1", apart.length() + 4);
    }

    private static void nodeLimit() {
        String row = "f=[1" + Check.times(",1", 78) + "]";
        due(row, 160);
        fault("f=[1" + Check.times(",1", 79) + "]", 3 + 2 * 79);
        // A pair is counted at its , , behind its first part.
        String head = "f=[1" + Check.times(",1", 75);
        due(head + ",(1,2)]", 158);
        fault(head + ",1,(1,2)]", head.length() + 6);
        fault(head + ",1,1,(1,2)]", head.length() + 7);
        due(head + ",1,1,(1)]", 160);
        fault(head + ",1,1,1,(1)]", head.length() + 8);
        // A CALL is made by its argument's first token, ahead of that token's own node.
        due("f=id" + Check.times(" 1", 39), 80);
        fault("f=id" + Check.times(" 1", 40), 4 + 2 * 39 + 1);
        due("f=[id" + Check.times(" 1", 39) + "]", 82);
        fault("f=[id" + Check.times(" 1", 39) + "(1)]", 5 + 2 * 39);
        // A DECL of its own does not begin the count anew.
        due("f=[1" + Check.times(",1", 77) + "];g=2", 160);
        fault("f=[1" + Check.times(",1", 78) + "];g=2", 164);
    }

    private static void depthLimit() {
        due("f=" + Check.times("(", 20) + "1" + Check.times(")", 20), 2);
        fault("f=" + Check.times("(", 21) + "1" + Check.times(")", 21), 22);
        due("f=" + Check.times("[", 20) + Check.times("]", 20), 40);
        fault("f=" + Check.times("[", 21) + Check.times("]", 21), 22);
        fault("f=" + Check.times("(", 20) + "\\x.x", 22);
        fault("f=" + Check.times("([", 10) + "if 1", 22);
        due("f=" + Check.times("(", 19) + "\\x.x" + Check.times(")", 19), 3);
        fault("f=" + Check.times("(", 19) + "\\x.(x)", 24);
        fault("f=" + Check.times("(", 19) + "\\x.\\y.1", 24);
        due("f=" + Check.times("(", 18) + "\\x.\\y.x" + Check.times(")", 18), 4);
        due("f=" + Check.times("(", 18) + "if (1) then [] else \\x.x" + Check.times(")", 18), 8);
        // An if is not ended before its last E is.
        String deepIf = "f=" + Check.times("(", 19) + "if 1 then 1 else ";
        due(deepIf + "1" + Check.times(")", 19), 7);
        fault(deepIf + "[]", deepIf.length());
        fault("f=" + Check.times("(", 19) + "if (1)", 24);
        // What is ended counts no more.
        due("f=" + Check.times("(", 19) + "(1)(1)" + Check.times(")", 19) + "[]", 6);
        due("f=" + Check.times("(", 18) + "(\\x.x)(if 1 then 1 else 1)(1)" + Check.times(")", 18), 12);
    }

    /** What stood on the tape behind the end of this text is no part of it. */
    private static void textsBehindLongerOnes() {
        behind("f = 1234567", "f = 123456", 2);
        behind("f = \"abc\"", "f = \"abc", -14);
        behind("f = \"abc\"", "f = \"", -14);
        behind("f = 1 && true", "f = 1 &", -16);
        behind("f = 1 + 1", "f = 1 +", -17);
        behind("abcdefghi", "abcdefgh", -18);
        behind("f = idid", "f = id", 2);
        behind("a=1;b=1;c=1", "a=1;b=1;", -18);
    }

    private static void behind(String longer, String text, int want) {
        ConflictPlaces x = new ConflictPlaces();
        Check.read(x, longer);
        Check.due("read of " + text + " behind " + longer, Check.read(x, text), want);
    }

    private static void faultyTextChangesNothing() {
        ConflictPlaces x = Check.of("f = 1 + \"a\"");
        x.search(2000);
        x.without(1, 0);
        int work = x.told(4);
        String out = Check.out(x);
        Check.due("faulty read", Check.read(x, "g = ;"), -14);
        Check.due("told(7)", x.told(7), 0);
        Check.due("told(3)", x.told(3), 6);
        Check.due("told(4)", x.told(4), work);
        Check.due("told(5)", x.told(5), 1);
        Check.due("told(6)", x.told(6), 1);
        Check.due("set", Check.setOf(x, 0), "3 5");
        Check.due("out", Check.out(x), out);
        Check.due("read of an empty tape", x.read(), -10);
        Check.due("fits()", x.fits(), 0);
        Check.due("good read", Check.read(x, "g = 2"), 2);
        Check.due("told(4)", x.told(4), 0);
        Check.due("told(5)", x.told(5), 0);
        Check.due("told(6)", x.told(6), 0);
        Check.due("set(0, -1)", x.set(0, -1), Check.BAD);
        Check.due("fits()", x.fits(), 1);
        Check.due("out stays", Check.out(x), out);
        halfASearch();
    }

    /** A faulty text between two pieces of WORK does not disturb the search. */
    private static void halfASearch() {
        ConflictPlaces x = Check.of("f = 1 + \"a\"");
        x.search(4);
        Check.read(x, "h h h h");
        Check.due("told(4)", x.told(4), 4);
        Check.due("search(3)", x.search(3), 1);
        Check.due("set", Check.setOf(x, 0), "3 5");
    }
}
