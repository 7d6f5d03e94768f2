import java.util.ArrayList;
import java.util.List;
import java.util.Random;

/**
 * Promises 15 to 17, "OFFERED are those with which the text, if it does not fit, does": each change is
 * made in the text itself, which a new object reads. What is OFFERED must be what fits then, in its
 * order, and BINDERS must have there the types that mended() tells. What fits() and binder() answer
 * is tested elsewhere.
 */
public final class ChangedTextTest {
    private static final String[] BUILT_IN =
        {"true", "false", "not", "head", "tail", "null", "length", "fst", "snd", "id", "show"};
    private static final String[] SIGNS = {"&&", "==", "<", ":", "+", "++"};
    private static final int[] LEVELS = {1, 2, 2, 3, 4, 4};
    private static final int[] COSTS = {1, 1, 2, 2, 3, 4, 4, 4};
    private static final int CALL_LEVEL = 5, ATOM_LEVEL = 6;

    public static void main(String[] args) {
        int[] seen = new int[8];
        Random random = new Random(1);
        for (int i = 0; i < 1000; i++) {
            compare(new Maker(random).text(), seen);
        }
        for (int sort = 0; sort < 8; sort++) {
            Check.due("sort " + sort + " is OFFERED often enough to tell", seen[sort] >= 10 ? 1 : 0, 1);
        }
        Check.end();
    }

    /** A node as the document numbers its kinds, and the ( ) around it that it does not need. */
    private static final class Node {
        final int kind;
        final String word;
        final List<Node> parts = new ArrayList<>();
        boolean inBrackets;
        final List<String> reached = new ArrayList<>();

        Node(int kind, String word) {
            this.kind = kind;
            this.word = word;
        }

        int level() {
            if (kind >= 8) {
                return LEVELS[kind - 8];
            }
            if (kind == 4 || kind == 5) {
                return 0;
            }
            return kind == 3 ? CALL_LEVEL : ATOM_LEVEL;
        }
    }

    /** A DECL, or another BINDER, which has neither inner ones nor a body. */
    private static final class Decl {
        final String name;
        final Type type;
        final List<Decl> inners = new ArrayList<>();
        Node body;

        Decl(String name, Type type) {
            this.name = name;
            this.type = type;
        }
    }

    /** Num 0, Bool 1, Text 2, a list 3, a pair 4. */
    private record Type(int sort, Type left, Type right) {
    }

    /**
     * Makes texts at random that fit but for one slip, so that there are changes that mend them; a
     * text that ends before its slip comes fits. No two BINDERS have the same NAME: one is known by it.
     */
    private static final class Maker {
        private static final int OTHER_TYPE = 0, ARGUMENTS = 1, SIGN = 2, ONE_MORE = 3;
        private final Random random;
        private final List<Decl> decls = new ArrayList<>();
        private final int slip;
        private int until;
        private int bound;

        Maker(Random random) {
            this.random = random;
            slip = random.nextInt(4);
            // Signs and arguments of two are rare: the first one slips.
            until = slip == OTHER_TYPE || slip == ONE_MORE ? random.nextInt(6) : 0;
        }

        List<Decl> text() {
            int count = 1 + random.nextInt(3);
            for (int d = 0; d < count; d++) {
                Decl decl = new Decl("d" + d, type(2));
                for (int i = random.nextInt(3); i > 0; i--) {
                    decl.inners.add(new Decl("p" + bound++, type(1)));
                }
                decls.add(decl);
            }
            if (slip == ARGUMENTS) {
                // One that surely takes two, for the DECL behind it to call.
                decls.add(0, new Decl("e", type(1)));
                decls.get(0).inners.add(new Decl("p" + bound++, type(1)));
                decls.get(0).inners.add(new Decl("p" + bound++, type(1)));
            }
            for (int d = 0; d < decls.size(); d++) {
                Decl decl = decls.get(d);
                boolean calls = d == 1 && slip == ARGUMENTS;
                decl.body = calls ? declCall(decls.get(0).type, decl.inners, 1) : node(decl.type, decl.inners, 2);
            }
            return decls;
        }

        private boolean slipsNow(int kind) {
            return slip == kind && until-- == 0;
        }

        private Type type(int depth) {
            int sort = random.nextInt(depth == 0 ? 3 : 5);
            return new Type(sort, sort >= 3 ? type(depth - 1) : null, sort == 4 ? type(depth - 1) : null);
        }

        private static Type listOf(Type type) {
            return new Type(3, type, null);
        }

        private Type other(Type type) {
            if (random.nextBoolean()) {
                return type(0);
            }
            return type.sort == 3 ? type.left : listOf(type);
        }

        private Node node(Type wanted, List<Decl> scope, int depth) {
            Type type = slipsNow(OTHER_TYPE) ? other(wanted) : wanted;
            Node made = depth == 0 || random.nextInt(5) == 0 ? leaf(type, scope) : branch(type, scope, depth - 1);
            if (slipsNow(ONE_MORE)) {
                made = node(3, "", made, leaf(type(0), scope));
            }
            made.inBrackets = random.nextInt(10) == 0;
            return made;
        }

        private static Node node(int kind, String word, Node... parts) {
            Node made = new Node(kind, word);
            made.parts.addAll(List.of(parts));
            return made;
        }

        private Node name(String word, List<Decl> scope) {
            Node name = new Node(0, word);
            name.reached.addAll(List.of(BUILT_IN));
            for (Decl decl : decls) {
                name.reached.add(decl.name);
            }
            for (Decl inner : scope) {
                name.reached.add(inner.name);
            }
            return name;
        }

        private Node leaf(Type type, List<Decl> scope) {
            for (Decl inner : scope) {
                if (inner.type.equals(type) && random.nextInt(3) > 0) {
                    return name(inner.name, scope);
                }
            }
            return constant(type, scope, 0);
        }

        private Node constant(Type type, List<Decl> scope, int depth) {
            switch (type.sort) {
                case 0:
                    return new Node(1, "" + random.nextInt(100));
                case 1:
                    return name(BUILT_IN[random.nextInt(2)], scope);
                case 2:
                    return new Node(2, random.nextBoolean() ? "\"\"" : "\"t ;\"");
                case 3:
                    Node list = new Node(7, "");
                    for (int i = random.nextInt(3); i > 0; i--) {
                        list.parts.add(node(type.left, scope, depth));
                    }
                    return list;
                default:
                    return node(6, "", node(type.left, scope, depth), node(type.right, scope, depth));
            }
        }

        private Node branch(Type type, List<Decl> scope, int depth) {
            switch (random.nextInt(7)) {
                case 0:
                    Node condition = node(new Type(1, null, null), scope, depth);
                    return node(5, "", condition, node(type, scope, depth), node(type, scope, depth));
                case 1:
                    return constant(type, scope, depth);
                case 2:
                    return lambdaCall(type, scope, depth);
                case 3, 4:
                    return declCall(type, scope, depth);
                case 5:
                    return builtInCall(type, scope, depth);
                default:
                    return sign(type, scope, depth);
            }
        }

        private Node lambdaCall(Type type, List<Decl> scope, int depth) {
            Decl inner = new Decl("v" + bound++, type(1));
            List<Decl> within = new ArrayList<>(scope);
            within.add(inner);
            Node lambda = node(4, inner.name, node(type, within, depth));
            return node(3, "", lambda, node(inner.type, scope, depth));
        }

        private Node declCall(Type type, List<Decl> scope, int depth) {
            for (Decl decl : decls) {
                if (!decl.type.equals(type)) {
                    continue;
                }
                Node made = name(decl.name, scope);
                boolean turned = decl.inners.size() == 2 && slipsNow(ARGUMENTS);
                for (int i = 0; i < decl.inners.size(); i++) {
                    Decl inner = decl.inners.get(turned ? 1 - i : i);
                    made = node(3, "", made, node(inner.type, scope, depth));
                    made.inBrackets = random.nextInt(4) == 0;
                }
                return made;
            }
            return builtInCall(type, scope, depth);
        }

        private Node builtInCall(Type type, List<Decl> scope, int depth) {
            Type any = type(1);
            int choice = random.nextInt(6);
            if (choice == 0) {
                return call("id", type, scope, depth);
            }
            if (choice == 1) {
                return call("head", listOf(type), scope, depth);
            }
            if (choice == 2) {
                boolean first = random.nextBoolean();
                return call(first ? "fst" : "snd", new Type(4, first ? type : any, first ? any : type), scope, depth);
            }
            switch (type.sort) {
                case 0:
                    return call("length", listOf(any), scope, depth);
                case 1:
                    boolean not = random.nextBoolean();
                    return call(not ? "not" : "null", not ? type : listOf(any), scope, depth);
                case 2:
                    return call("show", any, scope, depth);
                case 3:
                    return call("tail", type, scope, depth);
                default:
                    return constant(type, scope, depth);
            }
        }

        private Node call(String word, Type argument, List<Decl> scope, int depth) {
            return node(3, "", name(word, scope), node(argument, scope, depth));
        }

        private Node sign(Type type, List<Decl> scope, int depth) {
            switch (type.sort) {
                case 0:
                    return sign(slipsNow(SIGN) ? 13 : 12, type, type, scope, depth);
                case 1:
                    int kind = 8 + random.nextInt(3);
                    Type any = type(1);
                    Type side = kind == 8 ? type : kind == 9 ? any : new Type(0, null, null);
                    return sign(kind, side, side, scope, depth);
                case 3:
                    if (random.nextBoolean()) {
                        return sign(11, type.left, type, scope, depth);
                    }
                    return sign(slipsNow(SIGN) ? 12 : 13, type, type, scope, depth);
                default:
                    return builtInCall(type, scope, depth);
            }
        }

        private Node sign(int kind, Type left, Type right, List<Decl> scope, int depth) {
            return node(kind, SIGNS[kind - 8], node(left, scope, depth), node(right, scope, depth));
        }
    }

    /** A change of one node; what is not of sort 0 has no word. */
    private record Change(int sort, Node node, String word) {
    }

    /** Writes a text with a change, and keeps where its nodes and BINDERS stand. */
    private static final class Printer {
        private final StringBuilder text = new StringBuilder();
        private final List<String> binders = new ArrayList<>();
        private final List<Node> nodes = new ArrayList<>();
        private final List<Integer> places = new ArrayList<>();
        private final Change change;

        Printer(List<Decl> decls, Change change) {
            this.change = change;
            for (Decl decl : decls) {
                text.append(text.length() == 0 ? "" : ";");
                bind(decl.name);
                for (Decl inner : decl.inners) {
                    text.append(' ');
                    bind(inner.name);
                }
                text.append("=");
                print(decl.body, 0);
            }
        }

        private void bind(String name) {
            binders.add(name);
            text.append(name);
        }

        private void stands(Node node) {
            nodes.add(node);
            places.add(text.length());
        }

        private void print(Node node, int level) {
            boolean brackets = node.inBrackets || node.level() < level;
            text.append(brackets ? "(" : "");
            if (change == null || change.node != node) {
                plain(node, null);
            } else {
                changed(node, brackets ? 0 : level);
            }
            text.append(brackets ? ")" : "");
        }

        private void changed(Node node, int level) {
            switch (change.sort) {
                case 0 -> text.append(change.word);
                case 1 -> text.append(node.kind == 1 ? "\"\"" : "1");
                case 2 -> {
                    Node inner = node.parts.get(0);
                    print(inner.parts.get(0), CALL_LEVEL);
                    argument(node.parts.get(1));
                    argument(inner.parts.get(1));
                }
                case 3 -> plain(node, node.kind == 12 ? "++" : "+");
                case 4 -> print(node.parts.get(0), level);
                case 5 -> wrapped("[", node, "]");
                case 6 -> wrapped("(show(", node, "))");
                default -> wrapped("(head(", node, "))");
            }
        }

        private void wrapped(String before, Node node, String behind) {
            text.append(before);
            plain(node, null);
            text.append(behind);
        }

        private void argument(Node node) {
            text.append(' ');
            print(node, ATOM_LEVEL);
        }

        private void plain(Node node, String otherSign) {
            switch (node.kind) {
                case 3 -> call(node);
                case 4 -> {
                    stands(node);
                    text.append("\\");
                    bind(node.word);
                    text.append(".");
                    print(node.parts.get(0), 0);
                }
                case 5 -> choice(node);
                case 6 -> row(node, "(", ")");
                case 7 -> row(node, "[", "]");
                case 0, 1, 2 -> {
                    stands(node);
                    text.append(node.word);
                }
                default -> sign(node, otherSign == null ? node.word : otherSign);
            }
        }

        private void call(Node node) {
            print(node.parts.get(0), CALL_LEVEL);
            text.append(' ');
            stands(node);
            print(node.parts.get(1), ATOM_LEVEL);
        }

        private void choice(Node node) {
            stands(node);
            text.append("if ");
            print(node.parts.get(0), 0);
            text.append(" then ");
            print(node.parts.get(1), 0);
            text.append(" else ");
            print(node.parts.get(2), 0);
        }

        private void row(Node node, String before, String behind) {
            stands(node);
            text.append(before);
            for (int i = 0; i < node.parts.size(); i++) {
                text.append(i == 0 ? "" : ",");
                print(node.parts.get(i), 0);
            }
            text.append(behind);
        }

        /** && + ++ are taken from the left, : from the right, == and < stand alone. */
        private void sign(Node node, String sign) {
            int level = node.level();
            boolean fromLeft = level == 1 || level == 4;
            print(node.parts.get(0), fromLeft ? level : level + 1);
            text.append(' ');
            stands(node);
            text.append(sign).append(' ');
            print(node.parts.get(1), level == 3 ? level : level + 1);
        }
    }

    private static void compare(List<Decl> decls, int[] seen) {
        Printer printer = new Printer(decls, null);
        String text = printer.text.toString();
        // A change adds eight bytes and two nodes at most, and must not make a text that can't be read.
        if (text.length() > 232 || printer.nodes.size() > 78 || printer.binders.size() - decls.size() > 16) {
            return;
        }
        ConflictPlaces x = Check.of(text);
        List<Node> numbered = numbered(x, printer, text);
        int count = 0;
        for (int cost = 1; cost <= 4 && x.fits() == 0; cost++) {
            for (int n = 0; n < numbered.size(); n++) {
                for (Change change : changesOf(numbered.get(n), cost, printer)) {
                    int fits = tried(text, decls, change, n, count, printer.binders);
                    count += fits;
                    seen[change.sort] += fits;
                }
            }
        }
        Check.due("changes() of " + text, x.changes(), count);
    }

    /** The nodes by the document's numbers; each must be found where the text was printed. */
    private static List<Node> numbered(ConflictPlaces x, Printer printer, String text) {
        List<Node> numbered = new ArrayList<>();
        Check.due("told(2) of " + text, x.told(2), printer.nodes.size());
        for (int n = 0; n < printer.nodes.size(); n++) {
            int place = x.node(n, 0);
            int kind = x.node(n, 1);
            for (int i = 0; i < printer.nodes.size(); i++) {
                if (printer.places.get(i) == place && printer.nodes.get(i).kind == kind) {
                    numbered.add(printer.nodes.get(i));
                }
            }
        }
        Check.due("nodes found of " + text, numbered.size(), printer.nodes.size());
        return numbered;
    }

    private static List<Change> changesOf(Node node, int cost, Printer printer) {
        List<Change> changes = new ArrayList<>();
        for (int sort = 0; sort < 8; sort++) {
            if (COSTS[sort] != cost || !canBe(sort, node)) {
                continue;
            }
            if (sort > 0) {
                changes.add(new Change(sort, node, null));
                continue;
            }
            for (int m = 0; m < 11 + printer.binders.size(); m++) {
                String word = m < 11 ? BUILT_IN[m] : printer.binders.get(m - 11);
                if (!word.equals(node.word) && node.reached.contains(word)) {
                    changes.add(new Change(0, node, word));
                }
            }
        }
        return changes;
    }

    private static boolean canBe(int sort, Node node) {
        switch (sort) {
            case 0:
                return node.kind == 0;
            case 1:
                return node.kind == 1 || node.kind == 2;
            case 2:
                return node.kind == 3 && node.parts.get(0).kind == 3 && !node.parts.get(0).inBrackets;
            case 3:
                return node.kind == 12 || node.kind == 13;
            case 4:
                return node.kind == 3;
            default:
                return true;
        }
    }

    /** Answers 1 if the changed text fits: then the change must be the i-th that is OFFERED. */
    private static int tried(String text, List<Decl> decls, Change change, int n, int i, List<String> binders) {
        Printer printer = new Printer(decls, change);
        String changed = printer.text.toString();
        ConflictPlaces y = Check.of(changed);
        if (y.fits() != 1) {
            return 0;
        }
        String call = "change " + i + " of " + text + " into " + changed;
        ConflictPlaces x = Check.of(text);
        int meaning = change.sort > 0 ? Check.NONE : numberOf(change.word, binders);
        Check.due(call + ": sort", x.change(i, 0), change.sort);
        Check.due(call + ": node", x.change(i, 1), n);
        Check.due(call + ": meaning", x.change(i, 2), meaning);
        Check.due(call + ": cost", x.change(i, 3), COSTS[change.sort]);
        for (int b = 0; b < binders.size(); b++) {
            // A BINDER in an argument that is gone is not in the changed text.
            int now = printer.binders.indexOf(binders.get(b));
            if (now >= 0) {
                String want = Check.written(y, y.binder(11 + now));
                Check.due(call + ": BINDER " + (11 + b), Check.written(x, x.mended(i, 11 + b)), want);
            }
        }
        return 1;
    }

    private static int numberOf(String word, List<String> binders) {
        int at = List.of(BUILT_IN).indexOf(word);
        return at >= 0 ? at : 11 + binders.indexOf(word);
    }
}
