/** Promise 3: the places at which THE FAULT just is, or just is not, by what "Terms" says of TEXTS. */
final class EdgesOfFault {
    private static final String NAMES_LAST = "If there is none such: the first NAME in an E that means nothing, the NAME of"
        + " a DECL that one before has or that is BUILT-IN, or a NAME behind a DECL's NAME that stood behind it already.";
    private static final String DEPTH =
        "a \\ if ( [ that lies in 20 others that are not ended (an if, a \\ end with their E).";
    private static final String SIXTEEN = "f a b c d e g h i j k l m n o p q";

    private EdgesOfFault() {
    }

    private static void rules(String text, int want) {
        Check.due("read of " + text, Check.read(new ConflictPlaces(), text), want);
    }

    private static void fault(String text, int place) {
        rules(text, -10 - place);
    }

    @Sentence(promise = 3, says = "TOKENS, each as long as it can be, with bytes 32 and 10 between them or not")
    static void blanks() {
        rules("f=1", 2);
        rules("\n \nf \n= \n1\n \n", 2);
        int[] others = {0, 9, 11, 12, 13, 31, 127, 160, 255};
        for (int b : others) {
            fault("f =" + (char) b + "1", 3);
        }
    }

    @Sentence(promise = 3, says = "TOKENS, each as long as it can be, with bytes 32 and 10 between them or not")
    static void longestTokens() {
        // == and not = = , ++ and not + + , a WORD with its digits, but a NUMBER without the letters behind it
        fault("f==1", 1);
        rules("f=1==1", 5);
        fault("f=1= =1", 3);
        rules("f=[]++[]", 6);
        fault("f=[]+ +[]", 6);
        fault("f=1+++1", 5);
        rules("f=1+1++1+1", 14);
        fault("f=not1", 2);
        rules("f=1not", 4);
        rules("f=1\"\"1", 6);
        fault("f=ifx", 2);
        rules("f=if 1then 1else 1", 7);
        fault("f=1&&&1", 5);
    }

    @Sentence(promise = 3, says = "a byte that begins none")
    static void bytesBesideThoseThatBeginTokens() {
        // Beside a .. z, 0 .. 9, and the SIGNS
        String none = "`{AZ/@!#$%&'*->?^_|}~";
        for (int i = 0; i < none.length(); i++) {
            fault("f = " + none.charAt(i), 4);
            fault("f = 1 " + none.charAt(i) + " 1", 6);
            // Where a NAME could stand, and within a WORD
            fault(none.charAt(i) + " = 1", 0);
            fault("f " + none.charAt(i) + " = 1", 2);
            fault("f = \\" + none.charAt(i) + ".1", 5);
            fault("a" + none.charAt(i) + "b = 1", 1);
        }
        fault("f = a&b", 5);
        rules("a = a; z = z; f = 0 + 9", 10);
        for (int b = 128; b < 256; b++) {
            fault("f = 1" + (char) b, 5);
        }
    }

    @Sentence(promise = 3, says = "a WORD of more than 8 bytes")
    static void wordsOf8And9Bytes() {
        rules("abcdefgh = abcdefgh", 2);
        rules("a2345678 = a2345678", 2);
        fault("abcdefghi = 1", 0);
        fault("a23456789 = 1", 0);
        fault("f abcdefghi = 1", 2);
        fault("f = \\abcdefghi.1", 5);
        fault("f = abcdefghi", 4);
        // That of 16 bytes does not begin anew, and its first 8 do not count alone.
        fault("abcdefgh = abcdefghabcdefgh", 11);
    }

    @Sentence(promise = 3, says = "a NUMBER of more than 6")
    static void numbersOf6And7Digits() {
        rules("f = 0", 2);
        rules("f = 000000", 2);
        rules("f = 999999", 2);
        fault("f = 0000000", 4);
        fault("f = 1234567", 4);
        rules("f = 123456 123456", 4);
        fault("f = 123456a", 10);
    }

    @Sentence(promise = 3, says = "a TEXT that does not end or has more than 8 bytes within")
    static void textsOf8And9Bytes() {
        rules("f = \"\"", 2);
        rules("f = \"12345678\"", 2);
        fault("f = \"123456789\"", 4);
        rules("f = \"\"\"\"", 4);
        rules("f = \"        \"", 2);
        fault("f = \"         \"", 4);
    }

    @Sentence(promise = 3, says = "a TEXT that does not end or has more than 8 bytes within")
    static void textsThatDoNotEnd() {
        fault("f = \"", 4);
        fault("f = \"a", 4);
        fault("f = \"12345678", 4);
        fault("f = \"\"\"", 6);
        // At the tape's last byte
        fault("f=" + Check.times(" ", 237) + "\"", 239);
        rules("f=" + Check.times(" ", 236) + "\"\"", 2);
    }

    @Sentence(promise = 3, says = "TEXTS (\", bytes 32 .. 126 but \", and \")")
    static void bytesWithinTexts() {
        rules("f = \" ~\"", 2);
        rules("f = \"!#\"", 2);
        rules("f = \"\\\"", 2);
        int[] others = {0, 10, 31, 127, 128, 255};
        for (int b : others) {
            fault("f = \"a" + (char) b + "\"", 4);
        }
    }

    @Sentence(promise = 3, says = "a seventh DECL's NAME")
    static void sixAndSevenDecls() {
        String six = "a=1;b=1;c=1;d=1;e=1;f=1";
        rules("a=1", 2);
        rules(six, 12);
        fault(six + ";g=1", 24);
        fault(six + " ; g", 26);
        // What stands there in a NAME's stead is THE FAULT as it is elsewhere.
        fault(six + ";", 24);
        fault(six + ";;", 24);
        fault(six + ";1", 24);
    }

    @Sentence(promise = 3, says = "the 17th NAME behind a DECL's NAME (ahead of =) or \\ ")
    static void sixteenAndSeventeenNames() {
        rules(SIXTEEN + "=1", 2);
        fault(SIXTEEN + " r=1", SIXTEEN.length() + 1);
        fault(SIXTEEN + " r", SIXTEEN.length() + 1);
        String lambdas = "f=" + "\\a.\\b.\\c.\\d.\\e.\\g.\\h.\\i.\\j.\\k.\\l.\\m.\\n.\\o.\\p.\\q.";
        rules(lambdas + "1", 18);
        fault(lambdas + "\\r.1", lambdas.length() + 1);
    }

    /** They are counted together, over all DECLS. */
    @Sentence(promise = 3, says = "the 17th NAME behind a DECL's NAME (ahead of =) or \\ ")
    static void sixteenNamesApart() {
        String apart = "f a b c d e=\\x.\\x.\\x.1;g a b c d=(\\x.\\x.\\x.1,1)";
        rules(apart + ";h x=1", 14);
        fault(apart + ";h x y=1", apart.length() + 5);
        fault(apart + ";h x=\\y.1", apart.length() + 6);
        // A DECL's own NAME is none of them, nor is a NAME in an E.
        rules(SIXTEEN + "=[a,b,c];g=1", 10);
        // A token other than a NAME that can't stand there is THE FAULT as it is elsewhere.
        fault(SIXTEEN + "=\\1.1", SIXTEEN.length() + 2);
    }

    @Sentence(promise = 3, says = "one that makes an 81st node (a pair's is its , )")
    static void eightyAndEightyOneLeaves() {
        String most = "f=[1" + Check.times(",1", 78);
        rules(most + "]", 160);
        fault(most + ",1]", most.length() + 1);
        fault(most + ",\"\"]", most.length() + 1);
        fault(most + ",id]", most.length() + 1);
        fault(most + ",[]]", most.length() + 1);
        fault(most + ",\\x.x]", most.length() + 1);
        fault(most + ",if 1 then 1 else 1]", most.length() + 1);
        fault(most + "];g=1", most.length() + 4);
    }

    /** The SIGN itself is one too many, or what stands behind it. */
    @Sentence(promise = 3, says = "one that makes an 81st node (a pair's is its , )")
    static void eightyAndEightyOneSigns() {
        String[] signs = {"&&", "==", "<", ":", "+", "++"};
        for (String sign : signs) {
            String most = "f=[1" + Check.times(",1", 78);
            fault(most + sign + "1]", most.length());
            String less = "f=[1" + Check.times(",1", 77);
            fault(less + sign + "1]", less.length() + sign.length());
        }
    }

    /** A CALL is made by its argument's first token, even if that is a ( that makes no node. */
    @Sentence(promise = 3, says = "one that makes an 81st node (a pair's is its , )")
    static void eightyAndEightyOneByCall() {
        String most = "f=[1" + Check.times(",1", 78);
        fault(most + " 1]", most.length() + 1);
        fault(most + "(1)]", most.length());
        fault(most + "[]]", most.length());
        String less = "f=[1" + Check.times(",1", 77);
        // The CALL is the 80th one, its argument the next.
        fault(less + " 1]", less.length() + 1);
        fault(less + "(1)]", less.length() + 1);
        fault(less + "((1))]", less.length() + 2);
        String fewer = "f=[1" + Check.times(",1", 76);
        rules(fewer + " 1]", 158);
        rules(fewer + "(1)]", 158);
    }

    @Sentence(promise = 3, says = "one that makes an 81st node (a pair's is its , )")
    static void eightyAndEightyOneByPair() {
        // 78 nodes, then the pair's first part
        String most = "f=[1" + Check.times(",1", 76);
        fault(most + ",(1,1)]", most.length() + 4);
        rules(most + ",(1)]", 158);
        String more = most + ",1";
        fault(more + ",(1,1)]", more.length() + 3);
        fault(more + ",1,(1,1)]", more.length() + 4);
        String fewer = "f=[1" + Check.times(",1", 75);
        rules(fewer + ",(1,1)]", 158);
        // Pairs that lie open are no nodes yet: of 76 and these, the third number is one too many.
        String open = "f=[1" + Check.times(",1", 74);
        fault(open + ",(((1,1),1),1)]", open.length() + 9);
        rules("f=[1" + Check.times(",1", 71) + ",(((1,1),1),1)]", 154);
        // Of 77 and as many open pairs as can be, it is the second , .
        String deep = "f=[1" + Check.times(",1", 75) + "," + Check.times("(", 19);
        fault(deep + "1" + Check.times(",1)", 19) + "]", deep.length() + 4);
    }

    @Sentence(promise = 3, says = DEPTH)
    static void twentyOthersOfOneKind() {
        rules("f=" + Check.times("(", 20) + "1" + Check.times(")", 20), 2);
        fault("f=" + Check.times("(", 21) + "1" + Check.times(")", 21), 22);
        rules("f=" + Check.times("[", 20) + Check.times("]", 20), 40);
        fault("f=" + Check.times("[", 21) + Check.times("]", 21), 22);
        rules("f=" + Check.times("(", 20) + "1" + Check.times(",1)", 20), 42);
        fault("f=" + Check.times("(", 21) + "1" + Check.times(",1)", 21), 22);
        String ifs = "f=" + Check.times("if ", 20) + "1 then 1 else 1";
        fault(ifs, ifs.length());
        fault("f=" + Check.times("if ", 21) + "1", 62);
    }

    /** Each of the four is refused in each of the four. */
    @Sentence(promise = 3, says = DEPTH)
    static void twentyOthersOfEachKind() {
        String[] last = {"\\x.1", "if 1 then 1 else 1", "(1)", "(1,1)", "[]"};
        for (String inner : last) {
            fault("f=" + Check.times("(", 20) + inner + Check.times(")", 20), 22);
            fault("f=" + Check.times("[", 20) + inner + Check.times("]", 20), 22);
            fault("f=" + Check.times("(", 4) + Check.times("\\x.", 16) + inner + Check.times(")", 4), 54);
            fault("f=" + Check.times("if ", 20) + inner, 62);
        }
        rules("f=" + Check.times("(", 19) + "\\x.1" + Check.times(")", 19), 3);
        rules("f=" + Check.times("(", 19) + "if 1 then 1 else 1" + Check.times(")", 19), 7);
        rules("f=" + Check.times("(", 19) + "[]" + Check.times(")", 19), 2);
        rules("f=" + Check.times("(", 4) + Check.times("\\x.", 16) + "1" + Check.times(")", 4), 18);
    }

    @Sentence(promise = 3, says = DEPTH)
    static void notEndedBeforeTheLastE() {
        String deep = "f=" + Check.times("(", 19);
        fault(deep + "if (1) then 1 else 1", 24);
        fault(deep + "if 1 then (1) else 1", 31);
        fault(deep + "if 1 then 1 else (1)", 38);
        fault(deep + "\\x.(1)", 24);
        fault(deep + "\\x.1 + (1)", 28);
        fault(deep + "(1,(1))", 24);
        fault(deep + "[1,[]]", 24);
    }

    @Sentence(promise = 3, says = DEPTH)
    static void endedOnesDoNotCount() {
        String deep = "f=" + Check.times("(", 19);
        String end = Check.times(")", 19);
        rules(deep + "(1)(1)[1]" + end, 8);
        rules(deep + "(1)+[]" + end + "+(1)", 10);
        // A \ and an if end with their E, at the ) , ] or , behind it.
        rules("f=" + Check.times("(", 18) + "(\\x.1)(1)[\\x.1,[]]" + Check.times(")", 18), 12);
        rules("f=" + Check.times("(", 18) + "[if 1 then 1 else 1,(1)]" + Check.times(")", 18), 11);
        rules("f=" + Check.times("(", 18) + "if \\x.1 then \\x.1 else \\x.1" + Check.times(")", 18), 10);
        // A DECL begins anew.
        rules("f=" + Check.times("(", 20) + "1" + Check.times(")", 20) + ";g=" + Check.times("[", 20) + Check.times("]", 20), 42);
    }

    @Sentence(promise = 3, says = "Or the text's length, if it ends too early.")
    static void tooEarlyAnywhere() {
        String text = "f x = \\y.if (x, [1, y]) == x then head [] \"a\" + 1 else [2]";
        Check.due("the whole text", Check.read(new ConflictPlaces(), text) > 0 ? 1 : 0, 1);
        String[] early = {"", " ", "\n", "f", "f ", "f x ", "f x = ", "f x = \\", "f x = \\y", "f x = \\y.", "f x = \\y.if",
            "f x = \\y.if (", "f x = \\y.if (x", "f x = \\y.if (x,", "f x = \\y.if (x, [", "f x = \\y.if (x, [1",
            "f x = \\y.if (x, [1,", "f x = \\y.if (x, [1, y]", "f x = \\y.if (x, [1, y]) ==", "f=1;", "f=1; "};
        for (String part : early) {
            fault(part, part.length());
        }
        String middle = "f x = \\y.if (x, [1, y]) == x then head [] \"a\" + 1 else";
        fault(middle, middle.length());
        fault(Check.times(" ", 240), 240);
    }

    @Sentence(promise = 3, says = "THE FAULT is the first TOKEN that can't stand, by its first byte")
    static void firstOfSeveral() {
        fault("f = ) )", 4);
        fault("f = ) A", 4);
        fault("f = A )", 4);
        fault("f = 1234567 \"", 4);
        fault("f = \" 1234567", 4);
        fault("1", 0);
        fault(" \n;", 2);
    }

    /** Of two SIGNS or KEYWORDS that stand at like places, the other one can't stand. */
    @Sentence(promise = 3, says = "THE FAULT is the first TOKEN that can't stand, by its first byte")
    static void oneSignForAnother() {
        fault("f.1", 1);
        fault("f:1", 1);
        fault("f=\\x=1", 4);
        fault("f=\\x:1", 4);
        fault("f=(1]", 4);
        fault("f=[1)", 4);
        fault("f=[)", 3);
        fault("f=(1;1)", 4);
        fault("f=[1;1]", 4);
        fault("f=1,g=1", 3);
        fault("f=1 else", 4);
        fault("f=1 then", 4);
        fault("f=if 1 else 1 then 1", 7);
        fault("f=if 1 then 1 then 1", 14);
        fault("f=if 1;then 1 else 1", 6);
        fault("f=1==1==1", 6);
        fault("f=1<1<1", 5);
        fault("f=1==1<1", 6);
        fault("f=1+\\x.1", 4);
        fault("f=1+if 1 then 1 else 1", 4);
        fault("f=1\\x.1", 3);
    }

    @Sentence(promise = 3, says = NAMES_LAST)
    static void meaningsOnlyIfEveryTokenCanStand() {
        fault("f = x", 4);
        fault("f = x )", 6);
        fault("id = 1 1 +", 10);
        fault("f x x = y; g", 12);
        fault("f = x; a=1;b=1;c=1;d=1;e=1;g=1", 27);
    }

    @Sentence(promise = 3, says = NAMES_LAST)
    static void nameThatMeansNothing() {
        fault("f = x", 4);
        rules("f x = x", 2);
        rules("f = \\x.x", 3);
        // Behind the E of its \ , in another DECL, ahead of its \
        fault("f = (\\x.x) x", 11);
        fault("f x = 1; g = x", 13);
        fault("f = (x, \\x.x)", 5);
        // A DECL's NAME is meant wherever it stands.
        rules("f = g; g = f", 4);
        fault("f = ids", 4);
        fault("f = i", 4);
    }

    @Sentence(promise = 3, says = NAMES_LAST)
    static void namesOfDeclsThatAreTaken() {
        fault("f = 1; f = 1", 7);
        fault("f = 1; g = 1; h = 1; f = 1", 21);
        String[] builtIn = {"true", "false", "not", "head", "tail", "null", "length", "fst", "snd", "id", "show"};
        for (String name : builtIn) {
            fault(name + " = 1", 0);
            fault("f = 1; " + name + " = 1", 7);
            // Behind a DECL's NAME and behind \ it can stand.
            rules("f " + name + " = " + name, 2);
            rules("f = \\" + name + "." + name, 3);
        }
        rules("f = 1; f1 = 1", 4);
    }

    @Sentence(promise = 3, says = NAMES_LAST)
    static void namesBehindNamesThatAreTaken() {
        fault("f x x = 1", 4);
        fault("f x y x = 1", 6);
        fault("f = 1; g x y z y = 1", 15);
        rules("f f = 1", 2);
        rules("f x = 1; g x = 1", 4);
        rules("f x = \\x.\\x.x", 4);
        fault(SIXTEEN.substring(0, SIXTEEN.length() - 1) + "a=1", SIXTEEN.length() - 1);
    }

    /** Of the three kinds the one that stands first, whichever it is. */
    @Sentence(promise = 3, says = NAMES_LAST)
    static void firstOfTheThree() {
        fault("f x x = y; id = 1", 4);
        fault("f x = y; id z z = 1", 6);
        fault("f x = x; id z z = y", 9);
        fault("f = 1; f z z = y", 7);
    }
}
