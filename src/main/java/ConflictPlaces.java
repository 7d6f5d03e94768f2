import java.util.Arrays;

/**
 * Texts of a small language of functions, held against its types: the least sets of rules that
 * conflict, the types of parts, and the changes that mend a text.
 *
 * Every row is made once, by a constructor, and used again by all calls: no call makes an object.
 */
public final class ConflictPlaces {
    public static final int BAD = -1, STATE = -2, NO = -3, FULL = -4, NONE = -9;

    private static final int TAPE_LIMIT = 240;
    private static final int OUT_LIMIT = 300;
    private static final int WORK_LIMIT = 2000;
    private static final int FAULT_BASE = -10;
    private static final int WORD_LIMIT = 8;
    private static final int NUMBER_LIMIT = 6;
    private static final int QUOTED_LIMIT = 8;
    private static final int DECL_LIMIT = 6;
    private static final int INNER_LIMIT = 16;
    private static final int NODE_LIMIT = 80;
    private static final int DEPTH_LIMIT = 20;
    private static final int FIRST_BINDER = 11;
    private static final int MEANING_ROOM = FIRST_BINDER + DECL_LIMIT + INNER_LIMIT;

    /** One token for each byte, and the end. */
    private static final int TOKEN_ROOM = TAPE_LIMIT + 2;
    /** A pair takes its number at its ( but is counted at its , so as many more as can lie open. */
    private static final int NODE_ROOM = NODE_LIMIT + DEPTH_LIMIT + 4;
    /** A tree of n nodes and its DECL have 2n rules at most; a change adds less than eight. */
    private static final int RULE_ROOM = 2 * NODE_LIMIT + 8;
    /** Each node: its variable, its own one, and four cells at most that a rule makes. */
    private static final int CELL_ROOM = 7 * NODE_LIMIT + 2 * MEANING_ROOM;
    /** Each NAME can become each meaning, each node has three changes that wrap it and two others. */
    private static final int OFFER_ROOM = NODE_LIMIT * (MEANING_ROOM + 5);

    // What a token is: the kinds of nodes first, with the numbers that the document gives them.
    private static final int NAME = 0, NUMBER = 1, TEXT = 2, CALL = 3, LAMBDA = 4, IF = 5, PAIR = 6;
    private static final int LIST = 7, AND = 8, EQUAL = 9, BELOW = 10, CONS = 11, PLUS = 12, JOIN = 13;
    private static final int SEMICOLON = 14, EQUALS = 15, DOT = 16, CLOSE = 17, LIST_END = 18;
    private static final int COMMA = 19, THEN = 20, ELSE = 21, END = 22, WRONG = 23;

    // How tightly signs hold: of two levels the higher one holds its operands first.
    private static final int NO_LEVEL = 0, AND_LEVEL = 1, TEST_LEVEL = 2, ROW_LEVEL = 3, SUM_LEVEL = 4;

    private static final long IF_KEY = 'i' << 8 | 'f';
    private static final long THEN_KEY = 't' << 24 | 'h' << 16 | 'e' << 8 | 'n';
    private static final long ELSE_KEY = 'e' << 24 | 'l' << 16 | 's' << 8 | 'e';
    private static final String BUILT_IN_NAMES = "true false not head tail null length fst snd id show ";
    private static final int TRUE = 0, FALSE = 1, NOT = 2, HEAD = 3, TAIL = 4, NULL = 5, LENGTH = 6;
    private static final int FST = 7, SND = 8, ID = 9;

    // What a rule says of x, y and z.
    private static final int NOTHING = 0, SAME = 1, LIST_OF = 2, PAIR_OF = 3, FUNCTION_OF = 4;
    private static final int DECLARED = 5, CONSTANT = 6, BUILT_IN = 7;

    // What a type is; from LIST_TYPE on it has parts.
    private static final int OPEN = 0, NUM = 1, BOOL = 2, CHARS = 3, LIST_TYPE = 4, PAIR_TYPE = 5;
    private static final int FUNCTION_TYPE = 6;

    // The sorts of changes.
    private static final int OTHER_NAME = 0, OTHER_LITERAL = 1, SWAP = 2, OTHER_SIGN = 3, DROP = 4;
    private static final int IN_LIST = 5, IN_SHOW = 6, IN_HEAD = 7;
    private static final int[] COSTS = {1, 1, 2, 2, 3, 4, 4, 4};

    private final int[] tape = new int[TAPE_LIMIT];
    private int tapeLength;
    private Program current = new Program();
    private Program spare = new Program();
    private boolean hasText;
    private final Solver solver = new Solver();
    private final Hunt hunt = new Hunt();
    private final Mender mender = new Mender();
    private final Writer writer = new Writer();
    private final boolean[] chosen = new boolean[RULE_ROOM];

    public ConflictPlaces() {
    }

    public int feed(int n, long bytes) {
        if (n < 1 || n > 8) {
            return BAD;
        }
        if (tapeLength + n > TAPE_LIMIT) {
            return FULL;
        }
        for (int i = 0; i < n; i++) {
            tape[tapeLength + i] = (int) (bytes >>> (8 * i)) & 255;
        }
        tapeLength += n;
        return tapeLength;
    }

    public int read() {
        int length = tapeLength;
        tapeLength = 0;
        int fault = spare.parse(tape, length);
        if (fault != NONE) {
            return FAULT_BASE - fault;
        }
        Program before = current;
        current = spare;
        spare = before;
        hasText = true;
        hunt.restart();
        mender.forget();
        return current.rules.count;
    }

    public int told(int what) {
        switch (what) {
            case 0:
                return current.names.decls;
            case 1:
                return current.names.binders();
            case 2:
                return current.tree.count;
            case 3:
                return current.rules.count;
            case 4:
                return hunt.work;
            case 5:
                return hunt.found;
            case 6:
                return hunt.all ? 1 : 0;
            case 7:
                return tapeLength;
            default:
                return BAD;
        }
    }

    public int node(int node, int what) {
        if (!isNode(node)) {
            return BAD;
        }
        Tree tree = current.tree;
        switch (what) {
            case 0:
                return tree.places[node];
            case 1:
                return tree.kinds[node];
            case 2:
                return tree.kinds[node] == NAME ? tree.meanings[node] : NONE;
            default:
                return BAD;
        }
    }

    public int rule(int rule) {
        return isRule(rule) ? current.rules.placeOf(rule) : BAD;
    }

    public int fits() {
        if (!hasText) {
            return STATE;
        }
        return solveAll() ? 1 : 0;
    }

    public int conflict(int from, int to) {
        if (!isRule(from) || !isRule(to) || to < from) {
            return BAD;
        }
        for (int r = 0; r < RULE_ROOM; r++) {
            chosen[r] = r >= from && r <= to;
        }
        return solveChosen() ? 0 : 1;
    }

    public int search(int work) {
        if (work < 1 || work > WORK_LIMIT) {
            return BAD;
        }
        if (!hasText) {
            return STATE;
        }
        for (int i = 0; i < work && !hunt.all; i++) {
            hunt.step(current.rules, solver);
        }
        return hunt.found;
    }

    public int set(int set, int i) {
        if (!hunt.has(set)) {
            return BAD;
        }
        if (i == -1) {
            return hunt.sizeOf(set);
        }
        int member = hunt.member(set, i);
        return member == NONE ? BAD : member;
    }

    public int less(int set, int i) {
        if (!hunt.has(set)) {
            return BAD;
        }
        int left = hunt.member(set, i);
        if (left == NONE) {
            return BAD;
        }
        for (int r = 0; r < RULE_ROOM; r++) {
            chosen[r] = hunt.setOf[r] == set && r != left;
        }
        return solveChosen() ? 0 : 1;
    }

    public int type(int node) {
        if (!isNode(node)) {
            return BAD;
        }
        return solveAll() ? writer.write(solver, node) : NO;
    }

    public int binder(int b) {
        if (!isBinder(b)) {
            return BAD;
        }
        return solveAll() ? writer.write(solver, current.rules.binderVariable(b)) : NO;
    }

    public int without(int rule, int node) {
        if (!isRule(rule) || !isNode(node)) {
            return BAD;
        }
        for (int r = 0; r < RULE_ROOM; r++) {
            chosen[r] = r != rule;
        }
        return solveChosen() ? writer.write(solver, node) : NO;
    }

    public int changes() {
        if (!hasText) {
            return STATE;
        }
        mender.collect(current, solver);
        return mender.count;
    }

    public int change(int i, int what) {
        if (!hasText) {
            return BAD;
        }
        mender.collect(current, solver);
        if (!mender.has(i)) {
            return BAD;
        }
        switch (what) {
            case 0:
                return mender.sortOf(i);
            case 1:
                return mender.nodeOf(i);
            case 2:
                return mender.meaningOf(i);
            case 3:
                return mender.costOf(i);
            default:
                return BAD;
        }
    }

    public int mended(int i, int b) {
        if (!hasText || !isBinder(b)) {
            return BAD;
        }
        mender.collect(current, solver);
        if (!mender.has(i) || !mender.solvesWith(current, solver, i)) {
            return BAD;
        }
        return writer.write(solver, current.rules.binderVariable(b));
    }

    public int out(int i) {
        return writer.byteAt(i);
    }

    private boolean isNode(int n) {
        return n >= 0 && n < current.tree.count;
    }

    private boolean isRule(int r) {
        return r >= 0 && r < current.rules.count;
    }

    private boolean isBinder(int b) {
        return b >= FIRST_BINDER && b < current.names.next;
    }

    private boolean solveChosen() {
        return solver.solves(current.rules, chosen);
    }

    private boolean solveAll() {
        for (int r = 0; r < RULE_ROOM; r++) {
            chosen[r] = true;
        }
        return solveChosen();
    }

    /** The tape cut into tokens, up to the first one that is wrong in itself. */
    private static final class Tokens {
        private final int[] kinds = new int[TOKEN_ROOM];
        private final int[] places = new int[TOKEN_ROOM];
        private final long[] keys = new long[TOKEN_ROOM];
        private final boolean[] pairs = new boolean[TOKEN_ROOM];
        private final int[] opened = new int[TOKEN_ROOM];
        private int count;

        private void scan(int[] tape, int length) {
            count = 0;
            int at = 0;
            for (int turn = 0; turn < length && at < length; turn++) {
                at = isBlank(tape[at]) ? at + 1 : scanOne(tape, length, at);
            }
            append(END, length, 0);
            markPairs();
        }

        /** Answers where the next token can begin; a wrong one uses up the tape. */
        private int scanOne(int[] tape, int length, int at) {
            int first = tape[at];
            if (isLetter(first)) {
                return scanWord(tape, length, at);
            }
            if (isDigit(first)) {
                return scanNumber(tape, length, at);
            }
            if (first == '"') {
                return scanQuoted(tape, length, at);
            }
            return scanSign(tape, length, at);
        }

        private int scanWord(int[] tape, int length, int at) {
            int end = at;
            long key = 0;
            for (; end < length && (isLetter(tape[end]) || isDigit(tape[end])); end++) {
                key = key << 8 | tape[end];
            }
            return end - at > WORD_LIMIT ? giveUp(at, length) : accept(wordKind(key), at, key, end);
        }

        private int scanNumber(int[] tape, int length, int at) {
            int end = at;
            while (end < length && isDigit(tape[end])) {
                end++;
            }
            return end - at > NUMBER_LIMIT ? giveUp(at, length) : accept(NUMBER, at, 0, end);
        }

        private int scanQuoted(int[] tape, int length, int at) {
            int end = at + 1;
            while (end < length && isQuotable(tape[end])) {
                end++;
            }
            boolean ended = end < length && tape[end] == '"';
            boolean isShort = end - at - 1 <= QUOTED_LIMIT;
            return ended && isShort ? accept(TEXT, at, 0, end + 1) : giveUp(at, length);
        }

        private int scanSign(int[] tape, int length, int at) {
            int first = tape[at];
            boolean doubled = at + 1 < length && tape[at + 1] == first;
            int kind = doubled ? doubledKind(first) : WRONG;
            if (kind != WRONG) {
                return accept(kind, at, 0, at + 2);
            }
            kind = singleKind(first);
            return kind == WRONG ? giveUp(at, length) : accept(kind, at, 0, at + 1);
        }

        private int accept(int kind, int place, long key, int end) {
            append(kind, place, key);
            return end;
        }

        private int giveUp(int place, int length) {
            append(WRONG, place, 0);
            return length;
        }

        private void append(int kind, int place, long key) {
            if (count >= TOKEN_ROOM) {
                return;
            }
            kinds[count] = kind;
            places[count] = place;
            keys[count] = key;
            pairs[count] = false;
            count++;
        }

        /** A pair is numbered at its ( , so it must be known for one before its , is read. */
        private void markPairs() {
            int depth = 0;
            for (int i = 0; i < count; i++) {
                int kind = kinds[i];
                if (kind == PAIR || kind == LIST) {
                    opened[depth] = i;
                    depth++;
                } else if (depth > 0 && (kind == CLOSE || kind == LIST_END)) {
                    depth--;
                } else if (depth > 0 && kind == COMMA) {
                    pairs[opened[depth - 1]] = true;
                }
            }
        }

        private static int wordKind(long key) {
            if (key == IF_KEY) {
                return IF;
            }
            if (key == THEN_KEY) {
                return THEN;
            }
            return key == ELSE_KEY ? ELSE : NAME;
        }

        private static int doubledKind(int first) {
            switch (first) {
                case '=':
                    return EQUAL;
                case '+':
                    return JOIN;
                case '&':
                    return AND;
                default:
                    return WRONG;
            }
        }

        private static int singleKind(int first) {
            switch (first) {
                case ';':
                    return SEMICOLON;
                case '=':
                    return EQUALS;
                case '<':
                    return BELOW;
                case '+':
                    return PLUS;
                case ':':
                    return CONS;
                case '\\':
                    return LAMBDA;
                case '.':
                    return DOT;
                case '(':
                    return PAIR;
                case ')':
                    return CLOSE;
                case '[':
                    return LIST;
                case ']':
                    return LIST_END;
                case ',':
                    return COMMA;
                default:
                    return WRONG;
            }
        }

        private static boolean isBlank(int b) {
            return b == 32 || b == 10;
        }

        private static boolean isLetter(int b) {
            return b >= 'a' && b <= 'z';
        }

        private static boolean isDigit(int b) {
            return b >= '0' && b <= '9';
        }

        private static boolean isQuotable(int b) {
            return b >= 32 && b <= 126 && b != '"';
        }
    }

    /** The nodes, by their numbers; parts that a node does not have are NONE. */
    private static final class Tree {
        private final int[] kinds = new int[NODE_ROOM];
        private final int[] places = new int[NODE_ROOM];
        private final int[] firsts = new int[NODE_ROOM];
        private final int[] seconds = new int[NODE_ROOM];
        private final int[] thirds = new int[NODE_ROOM];
        /** The next element of the same list. */
        private final int[] nexts = new int[NODE_ROOM];
        /** The place of the then, else, [ or , that stands ahead of the node. */
        private final int[] joints = new int[NODE_ROOM];
        /** What a NAME means; of a \ , the BINDER behind it. */
        private final int[] meanings = new int[NODE_ROOM];
        /** The innermost BINDER around the node that is no DECL's NAME. */
        private final int[] scopes = new int[NODE_ROOM];
        private final long[] keys = new long[NODE_ROOM];
        /** Of a CALL: the last node of its argument. */
        private final int[] ends = new int[NODE_ROOM];
        private final boolean[] bracketed = new boolean[NODE_ROOM];
        private int count;

        private int add(int kind, int place, int scope, long key) {
            if (count >= NODE_ROOM) {
                return NONE;
            }
            int n = count;
            kinds[n] = kind;
            places[n] = place;
            scopes[n] = scope;
            keys[n] = key;
            firsts[n] = NONE;
            seconds[n] = NONE;
            thirds[n] = NONE;
            nexts[n] = NONE;
            joints[n] = NONE;
            meanings[n] = NONE;
            ends[n] = NONE;
            bracketed[n] = false;
            count++;
            return n;
        }

        private boolean has(int n) {
            return n >= 0 && n < count;
        }

        /** Whether f x y stands at a CALL of f x with y, f x not in ( ) of its own. */
        private boolean callsCall(int n) {
            if (!has(n) || kinds[n] != CALL || !has(firsts[n])) {
                return false;
            }
            return kinds[firsts[n]] == CALL && !bracketed[firsts[n]];
        }
    }

    /** BUILT-IN NAMES and BINDERS by their numbers, and what a NAME means where. */
    private static final class Names {
        private final long[] keys = new long[MEANING_ROOM];
        private final int[] places = new int[MEANING_ROOM];
        /** The BINDER next further out; DECLS' NAMES stand in no such chain. */
        private final int[] outers = new int[MEANING_ROOM];
        private final int[] declBinders = new int[DECL_LIMIT];
        private final int[] declInners = new int[DECL_LIMIT];
        private final int[] declBodies = new int[DECL_LIMIT];
        private int decls;
        private int inners;
        private int next = FIRST_BINDER;

        private Names() {
            long key = 0;
            int k = 0;
            for (int i = 0; i < BUILT_IN_NAMES.length() && k < FIRST_BINDER; i++) {
                char c = BUILT_IN_NAMES.charAt(i);
                if (c == ' ') {
                    keys[k] = key;
                    key = 0;
                    k++;
                } else {
                    key = key << 8 | c;
                }
            }
        }

        private void clear() {
            decls = 0;
            inners = 0;
            next = FIRST_BINDER;
        }

        private int binders() {
            return next - FIRST_BINDER;
        }

        private boolean addDecl(long key, int place) {
            if (decls >= DECL_LIMIT || next >= MEANING_ROOM) {
                return false;
            }
            declBinders[decls] = next;
            declInners[decls] = 0;
            declBodies[decls] = NONE;
            decls++;
            addBinder(key, place, NONE);
            return true;
        }

        /** A NAME behind a DECL's NAME or \ : its number, or NONE if there are too many. */
        private int addInner(long key, int place, int outer) {
            if (inners >= INNER_LIMIT || next >= MEANING_ROOM) {
                return NONE;
            }
            inners++;
            addBinder(key, place, outer);
            return next - 1;
        }

        private void addBinder(long key, int place, int outer) {
            keys[next] = key;
            places[next] = place;
            outers[next] = outer;
            next++;
        }

        /** Those behind the last DECL's NAME are all that have been bound since. */
        private void endInners() {
            if (decls > 0) {
                declInners[decls - 1] = next - 1 - declBinders[decls - 1];
            }
        }

        private void endDecl(int body) {
            if (decls > 0) {
                declBodies[decls - 1] = body;
            }
        }

        private int lookUp(long key, int scope) {
            int b = scope;
            for (int turn = 0; turn < MEANING_ROOM && b >= FIRST_BINDER && b < next; turn++) {
                if (keys[b] == key) {
                    return b;
                }
                b = outers[b];
            }
            for (int d = 0; d < decls; d++) {
                if (keys[declBinders[d]] == key) {
                    return declBinders[d];
                }
            }
            for (int k = 0; k < FIRST_BINDER; k++) {
                if (keys[k] == key) {
                    return k;
                }
            }
            return NONE;
        }

        /** Whether a NAME at this place can mean m: no other one hides it there. */
        private boolean reaches(int m, int scope) {
            return m >= 0 && m < next && lookUp(keys[m], scope) == m;
        }

        /** The place of the first NAME of a DECL or behind it that is taken already, or NONE. */
        private int firstTaken() {
            for (int d = 0; d < decls; d++) {
                int b = declBinders[d];
                if (lookUp(keys[b], NONE) != b || isBuiltIn(keys[b])) {
                    return places[b];
                }
                for (int i = 1; i <= declInners[d] && b + i < next; i++) {
                    if (standsBetween(keys[b + i], b + 1, b + i)) {
                        return places[b + i];
                    }
                }
            }
            return NONE;
        }

        private boolean isBuiltIn(long key) {
            return standsBetween(key, 0, FIRST_BINDER);
        }

        private boolean standsBetween(long key, int from, int end) {
            for (int m = from; m < end && m < MEANING_ROOM; m++) {
                if (keys[m] == key) {
                    return true;
                }
            }
            return false;
        }
    }

    /** A text that is read: tokens, then nodes and BINDERS, then rules. */
    private static final class Program {
        private final Tokens tokens = new Tokens();
        private final Tree tree = new Tree();
        private final Names names = new Names();
        private final Rules rules = new Rules();
        private int at;
        // The token that stands next.
        private int kind;
        private int place;
        private long key;
        private int made;
        private int scope;
        private int fault;

        /** The place of THE FAULT, or NONE. */
        private int parse(int[] tape, int length) {
            tokens.scan(tape, length);
            tree.count = 0;
            names.clear();
            rules.count = 0;
            made = 0;
            fault = NONE;
            moveTo(0);
            declaration();
            for (int turn = 0; turn < DECL_LIMIT && fault == NONE && kind == SEMICOLON; turn++) {
                advance();
                declaration();
            }
            if (fault == NONE && kind != END) {
                refuse();
            }
            if (fault == NONE) {
                fault = firstMeaningless();
            }
            if (fault == NONE) {
                rules.build(tree, names);
            }
            return fault;
        }

        /** There is nothing behind the end: it stays the next token. */
        private void moveTo(int i) {
            if (i >= 0 && i < tokens.count) {
                at = i;
                kind = tokens.kinds[i];
                place = tokens.places[i];
                key = tokens.keys[i];
            }
        }

        private void advance() {
            moveTo(at + 1);
        }

        private void refuse() {
            if (fault == NONE) {
                fault = place;
            }
        }

        private boolean take(int wanted) {
            if (fault != NONE || kind != wanted) {
                refuse();
                return false;
            }
            advance();
            return true;
        }

        /** Counts a node against the limit; the token that makes one too many is THE FAULT. */
        private boolean countNode() {
            if (made >= NODE_LIMIT) {
                refuse();
                return false;
            }
            made++;
            return true;
        }

        private int make(int nodeKind) {
            return countNode() ? tree.add(nodeKind, place, scope, key) : NONE;
        }

        /** Binds the NAME that must stand here, within the scope so far. */
        private boolean bind() {
            int b = kind == NAME ? names.addInner(key, place, scope) : NONE;
            if (b == NONE) {
                refuse();
                return false;
            }
            scope = b;
            advance();
            return true;
        }

        private void declaration() {
            if (kind != NAME || !names.addDecl(key, place)) {
                refuse();
                return;
            }
            advance();
            scope = NONE;
            for (int turn = 0; turn <= INNER_LIMIT && fault == NONE && kind == NAME; turn++) {
                bind();
            }
            names.endInners();
            if (take(EQUALS)) {
                names.endDecl(expression(0));
            }
        }

        /** The depth is how many \ if ( [ are not ended here. */
        private int expression(int depth) {
            if (fault != NONE) {
                return NONE;
            }
            if (kind == LAMBDA) {
                return lambda(depth);
            }
            if (kind == IF) {
                return choice(depth);
            }
            return operators(AND_LEVEL, depth);
        }

        private int lambda(int depth) {
            int n = makeOpening(depth);
            if (n == NONE) {
                return NONE;
            }
            int outer = scope;
            if (!bind()) {
                return NONE;
            }
            tree.meanings[n] = scope;
            if (!take(DOT)) {
                return NONE;
            }
            tree.firsts[n] = expression(depth + 1);
            scope = outer;
            return n;
        }

        private int choice(int depth) {
            int n = makeOpening(depth);
            if (n == NONE) {
                return NONE;
            }
            tree.firsts[n] = expression(depth + 1);
            tree.seconds[n] = branch(THEN, depth + 1);
            tree.thirds[n] = branch(ELSE, depth + 1);
            return n;
        }

        private int branch(int keyword, int depth) {
            int joint = place;
            if (!take(keyword)) {
                return NONE;
            }
            return joined(expression(depth), joint);
        }

        private int joined(int n, int joint) {
            if (tree.has(n)) {
                tree.joints[n] = joint;
            }
            return n;
        }

        /** The node of a \ if or [ that stands here, unless it lies too deep. */
        private int makeOpening(int depth) {
            if (depth >= DEPTH_LIMIT) {
                refuse();
                return NONE;
            }
            int n = make(kind);
            if (n != NONE) {
                advance();
            }
            return n;
        }

        private int operators(int level, int depth) {
            if (level > SUM_LEVEL) {
                return calls(depth);
            }
            int whole = operators(level + 1, depth);
            int last = NONE;
            for (int turn = 0; turn < TOKEN_ROOM && fault == NONE && levelOf(kind) == level; turn++) {
                int sign = make(kind);
                if (sign == NONE) {
                    return NONE;
                }
                advance();
                int left = whole;
                if (level == ROW_LEVEL && last != NONE) {
                    // A row is taken from the right: its last operand goes to the new sign.
                    left = tree.seconds[last];
                    tree.seconds[last] = sign;
                } else {
                    whole = sign;
                }
                tree.firsts[sign] = left;
                tree.seconds[sign] = operators(level + 1, depth);
                last = sign;
                if (level == TEST_LEVEL) {
                    break;
                }
            }
            return whole;
        }

        private static int levelOf(int kind) {
            switch (kind) {
                case AND:
                    return AND_LEVEL;
                case EQUAL:
                case BELOW:
                    return TEST_LEVEL;
                case CONS:
                    return ROW_LEVEL;
                case PLUS:
                case JOIN:
                    return SUM_LEVEL;
                default:
                    return NO_LEVEL;
            }
        }

        private int calls(int depth) {
            int whole = atom(depth);
            for (int turn = 0; turn < TOKEN_ROOM && fault == NONE && beginsAtom(kind); turn++) {
                int call = make(CALL);
                if (call == NONE) {
                    return NONE;
                }
                tree.firsts[call] = whole;
                tree.seconds[call] = atom(depth);
                tree.ends[call] = tree.count - 1;
                whole = call;
            }
            return whole;
        }

        private static boolean beginsAtom(int kind) {
            return kind == NAME || kind == NUMBER || kind == TEXT || kind == PAIR || kind == LIST;
        }

        private int atom(int depth) {
            switch (kind) {
                case NAME:
                case NUMBER:
                case TEXT:
                    int leaf = make(kind);
                    if (leaf != NONE) {
                        advance();
                    }
                    return leaf;
                case PAIR:
                    return group(depth);
                case LIST:
                    return list(depth);
                default:
                    refuse();
                    return NONE;
            }
        }

        private int group(int depth) {
            if (depth >= DEPTH_LIMIT) {
                refuse();
                return NONE;
            }
            boolean isPair = at < tokens.count && tokens.pairs[at];
            int pair = isPair ? tree.add(PAIR, place, scope, 0) : NONE;
            advance();
            int first = expression(depth + 1);
            if (!tree.has(pair)) {
                if (take(CLOSE) && tree.has(first)) {
                    tree.bracketed[first] = true;
                }
                return first;
            }
            if (fault != NONE || kind != COMMA || !countNode()) {
                refuse();
                return NONE;
            }
            advance();
            tree.firsts[pair] = first;
            tree.seconds[pair] = expression(depth + 1);
            take(CLOSE);
            return pair;
        }

        private int list(int depth) {
            int joint = place;
            int whole = makeOpening(depth);
            if (whole == NONE) {
                return NONE;
            }
            int last = NONE;
            for (int turn = 0; turn < TOKEN_ROOM && fault == NONE; turn++) {
                if (turn == 0 && kind == LIST_END) {
                    break;
                }
                int element = joined(expression(depth + 1), joint);
                if (last == NONE) {
                    tree.firsts[whole] = element;
                } else {
                    tree.nexts[last] = element;
                }
                last = element;
                if (fault != NONE || kind != COMMA) {
                    break;
                }
                joint = place;
                advance();
            }
            take(LIST_END);
            return whole;
        }

        /** The place of the first NAME that can't stand for what it means, or NONE. */
        private int firstMeaningless() {
            int first = names.firstTaken();
            for (int n = 0; n < tree.count; n++) {
                if (tree.kinds[n] == NAME) {
                    tree.meanings[n] = names.lookUp(tree.keys[n], tree.scopes[n]);
                    boolean isFirst = first == NONE || tree.places[n] < first;
                    if (tree.meanings[n] == NONE && isFirst) {
                        first = tree.places[n];
                    }
                }
            }
            return first;
        }
    }

    /**
     * Rules by their numbers. Variables are numbered: nodes, BINDERS, the types that nodes have of
     * their own, and one more for a node that a change puts into something.
     */
    private static final class Rules {
        private final int[] forms = new int[RULE_ROOM];
        private final int[] owners = new int[RULE_ROOM];
        /** The place, and behind it which one of those at this place; the rules rise by it. */
        private final int[] ranks = new int[RULE_ROOM];
        private final int[] xs = new int[RULE_ROOM];
        private final int[] ys = new int[RULE_ROOM];
        private final int[] zs = new int[RULE_ROOM];
        private int count;
        private int nodes;
        private int binders;

        private int variables() {
            return 2 * nodes + binders + 1;
        }

        private int binderVariable(int b) {
            return nodes + b - FIRST_BINDER;
        }

        private int ownVariable(int n) {
            return nodes + binders + n;
        }

        private int wrappedVariable() {
            return 2 * nodes + binders;
        }

        private int placeOf(int r) {
            return r >= 0 && r < count ? ranks[r] / 4 : NONE;
        }

        private void build(Tree tree, Names names) {
            count = 0;
            nodes = tree.count;
            binders = names.binders();
            for (int d = 0; d < names.decls; d++) {
                int b = names.declBinders[d];
                int rank = names.places[b] * 4 + 1;
                add(rank, NONE, DECLARED, binderVariable(b), names.declInners[d], names.declBodies[d]);
            }
            for (int n = 0; n < nodes; n++) {
                addOwn(tree, n, tree.kinds[n], tree.meanings[n]);
            }
        }

        private void add(int rank, int owner, int form, int x, int y, int z) {
            if (count >= RULE_ROOM) {
                return;
            }
            int r = count;
            for (; r > 0 && ranks[r - 1] > rank; r--) {
                ranks[r] = ranks[r - 1];
                owners[r] = owners[r - 1];
                forms[r] = forms[r - 1];
                xs[r] = xs[r - 1];
                ys[r] = ys[r - 1];
                zs[r] = zs[r - 1];
            }
            ranks[r] = rank;
            owners[r] = owner;
            forms[r] = form;
            xs[r] = x;
            ys[r] = y;
            zs[r] = z;
            count++;
        }

        private void copyAll(Rules other) {
            System.arraycopy(other.ranks, 0, ranks, 0, other.count);
            System.arraycopy(other.owners, 0, owners, 0, other.count);
            System.arraycopy(other.forms, 0, forms, 0, other.count);
            System.arraycopy(other.xs, 0, xs, 0, other.count);
            System.arraycopy(other.ys, 0, ys, 0, other.count);
            System.arraycopy(other.zs, 0, zs, 0, other.count);
            count = other.count;
            nodes = other.nodes;
            binders = other.binders;
        }

        /** The rules of a node, as if it were of this kind and meant this. */
        private void addOwn(Tree tree, int n, int kind, int meaning) {
            int rank = tree.places[n] * 4 + 1;
            int first = tree.firsts[n];
            int second = tree.seconds[n];
            switch (kind) {
                case NAME:
                    boolean isBuiltIn = meaning < FIRST_BINDER;
                    int y = isBuiltIn ? meaning : binderVariable(meaning);
                    add(rank, n, isBuiltIn ? BUILT_IN : SAME, n, y, NONE);
                    break;
                case NUMBER:
                    add(rank, n, CONSTANT, n, NUM, NONE);
                    break;
                case TEXT:
                    add(rank, n, CONSTANT, n, CHARS, NONE);
                    break;
                case CALL:
                    add(rank - 1, n, FUNCTION_OF, first, second, n);
                    break;
                case LAMBDA:
                    add(rank, n, FUNCTION_OF, n, binderVariable(meaning), first);
                    break;
                case IF:
                    add(rank, n, CONSTANT, first, BOOL, NONE);
                    addBranch(tree, n, second);
                    addBranch(tree, n, tree.thirds[n]);
                    break;
                case PAIR:
                    add(rank, n, PAIR_OF, n, first, second);
                    break;
                case LIST:
                    addList(tree, n, rank);
                    break;
                default:
                    addSign(kind, n, rank, first, second);
            }
        }

        private void addBranch(Tree tree, int n, int branch) {
            if (tree.has(branch)) {
                add(tree.joints[branch] * 4 + 1, n, SAME, n, branch, NONE);
            }
        }

        private void addList(Tree tree, int n, int rank) {
            add(rank, n, LIST_OF, n, ownVariable(n), NONE);
            int element = tree.firsts[n];
            for (int turn = 0; turn < NODE_ROOM && tree.has(element); turn++) {
                add(tree.joints[element] * 4 + 2, n, SAME, element, ownVariable(n), NONE);
                element = tree.nexts[element];
            }
        }

        private void addSign(int kind, int n, int rank, int left, int right) {
            switch (kind) {
                case AND:
                    add(rank, n, CONSTANT, left, BOOL, NONE);
                    add(rank + 1, n, CONSTANT, right, BOOL, NONE);
                    add(rank + 2, n, CONSTANT, n, BOOL, NONE);
                    break;
                case EQUAL:
                    add(rank, n, SAME, left, right, NONE);
                    add(rank + 1, n, CONSTANT, n, BOOL, NONE);
                    break;
                case BELOW:
                    add(rank, n, CONSTANT, left, NUM, NONE);
                    add(rank + 1, n, CONSTANT, right, NUM, NONE);
                    add(rank + 2, n, CONSTANT, n, BOOL, NONE);
                    break;
                case CONS:
                    add(rank, n, LIST_OF, right, left, NONE);
                    add(rank + 1, n, SAME, n, right, NONE);
                    break;
                case PLUS:
                    add(rank, n, CONSTANT, left, NUM, NONE);
                    add(rank + 1, n, CONSTANT, right, NUM, NONE);
                    add(rank + 2, n, CONSTANT, n, NUM, NONE);
                    break;
                default:
                    add(rank, n, LIST_OF, left, ownVariable(n), NONE);
                    add(rank + 1, n, SAME, right, left, NONE);
                    add(rank + 2, n, SAME, n, left, NONE);
            }
        }

        /** Rules of the nodes from one to another one hold no more; the others keep their numbers. */
        private void silence(int from, int to) {
            for (int r = 0; r < count; r++) {
                if (owners[r] >= from && owners[r] <= to) {
                    forms[r] = NOTHING;
                }
            }
        }

        /** What a node's rules say of it is said of what a change puts into something. */
        private void wrap(int n) {
            int wrapped = wrappedVariable();
            for (int r = 0; r < count; r++) {
                if (owners[r] == n && xs[r] == n) {
                    xs[r] = wrapped;
                }
                if (owners[r] == n && forms[r] == FUNCTION_OF && zs[r] == n) {
                    zs[r] = wrapped;
                }
            }
        }
    }

    /** Finds types with which rules hold: cells that are the same have one root. */
    private static final class Solver {
        private final int[] parents = new int[CELL_ROOM];
        private final int[] sorts = new int[CELL_ROOM];
        private final int[] lefts = new int[CELL_ROOM];
        private final int[] rights = new int[CELL_ROOM];
        private final int[] uses = new int[CELL_ROOM];
        private final int[] pending = new int[2 * CELL_ROOM + 4];
        private int count;
        private int constants;

        /** Whether the chosen rules do not conflict; the types then stay to be written. */
        private boolean solves(Rules rules, boolean[] chosen) {
            clear(rules.variables());
            for (int r = 0; r < rules.count && r < chosen.length; r++) {
                int form = chosen[r] ? rules.forms[r] : NOTHING;
                if (form == NOTHING) {
                    continue;
                }
                int right = form == BUILT_IN ? builtIn(rules.ys[r]) : rightSide(rules, r);
                if (!unify(rules.xs[r], right)) {
                    return false;
                }
            }
            return isFinite();
        }

        private void clear(int variables) {
            count = 0;
            for (int v = 0; v < variables; v++) {
                cell(OPEN, NONE, NONE);
            }
            // Where a constant's cell stands, less its sort.
            constants = count - NUM;
            cell(NUM, NONE, NONE);
            cell(BOOL, NONE, NONE);
            cell(CHARS, NONE, NONE);
        }

        private int cell(int sort, int left, int right) {
            if (count >= CELL_ROOM) {
                return CELL_ROOM - 1;
            }
            parents[count] = count;
            sorts[count] = sort;
            lefts[count] = left;
            rights[count] = right;
            count++;
            return count - 1;
        }

        private int rightSide(Rules rules, int r) {
            int y = rules.ys[r];
            int z = rules.zs[r];
            switch (rules.forms[r]) {
                case LIST_OF:
                    return cell(LIST_TYPE, y, NONE);
                case PAIR_OF:
                    return cell(PAIR_TYPE, y, z);
                case FUNCTION_OF:
                    return cell(FUNCTION_TYPE, y, z);
                case DECLARED:
                    int whole = z;
                    for (int i = y; i > 0; i--) {
                        whole = cell(FUNCTION_TYPE, rules.xs[r] + i, whole);
                    }
                    return whole;
                case CONSTANT:
                    return constants + y;
                default:
                    return y;
            }
        }

        private int builtIn(int meaning) {
            int bool = constants + BOOL;
            if (meaning == TRUE || meaning == FALSE) {
                return bool;
            }
            if (meaning == NOT) {
                return cell(FUNCTION_TYPE, bool, bool);
            }
            int a = cell(OPEN, NONE, NONE);
            if (meaning == ID) {
                return cell(FUNCTION_TYPE, a, a);
            }
            if (meaning == FST || meaning == SND) {
                int b = cell(OPEN, NONE, NONE);
                int pair = cell(PAIR_TYPE, a, b);
                return cell(FUNCTION_TYPE, pair, meaning == FST ? a : b);
            }
            if (meaning < HEAD || meaning > LENGTH) {
                return cell(FUNCTION_TYPE, a, constants + CHARS);
            }
            int list = cell(LIST_TYPE, a, NONE);
            int result = meaning == HEAD ? a : list;
            if (meaning == NULL) {
                result = bool;
            } else if (meaning == LENGTH) {
                result = constants + NUM;
            }
            return cell(FUNCTION_TYPE, list, result);
        }

        private boolean isCell(int c) {
            return c >= 0 && c < count;
        }

        private int root(int c) {
            if (c < 0 || c >= count) {
                return 0;
            }
            int r = c;
            for (int turn = 0; turn < CELL_ROOM && parents[r] != r; turn++) {
                parents[r] = parents[parents[r]];
                r = parents[r];
            }
            return r;
        }

        private boolean unify(int x, int y) {
            int top = push(0, x, y);
            for (int turn = 0; turn < 4 * CELL_ROOM && top >= 2; turn++) {
                int a = root(pending[top - 2]);
                int b = root(pending[top - 1]);
                top -= 2;
                if (a == b) {
                    continue;
                }
                if (sorts[b] == OPEN) {
                    parents[b] = a;
                } else if (sorts[a] == OPEN) {
                    parents[a] = b;
                } else if (sorts[a] != sorts[b]) {
                    return false;
                } else {
                    // Joined before their parts are, so that types in a ring come to an end.
                    parents[a] = b;
                    top = push(top, lefts[a], lefts[b]);
                    top = push(top, rights[a], rights[b]);
                }
            }
            return true;
        }

        private int push(int top, int x, int y) {
            if (!isCell(x) || !isCell(y) || top + 2 > pending.length) {
                return top;
            }
            pending[top] = x;
            pending[top + 1] = y;
            return top + 2;
        }

        /** A type is endless if it is a part of itself: such ones are never peeled off. */
        private boolean isFinite() {
            countUses();
            int roots = 0;
            int top = 0;
            for (int c = 0; c < count; c++) {
                if (parents[c] == c) {
                    roots++;
                    if (uses[c] == 0) {
                        pending[top] = c;
                        top++;
                    }
                }
            }
            int peeled = 0;
            for (; peeled < roots && top > 0; peeled++) {
                int c = pending[top - 1];
                top = release(top - 1, lefts[c]);
                top = release(top, rights[c]);
            }
            return peeled == roots;
        }

        private void countUses() {
            Arrays.fill(uses, 0, count, 0);
            for (int c = 0; c < count; c++) {
                if (parents[c] == c && isCell(lefts[c])) {
                    uses[root(lefts[c])]++;
                }
                if (parents[c] == c && isCell(rights[c])) {
                    uses[root(rights[c])]++;
                }
            }
        }

        private int release(int top, int part) {
            if (!isCell(part)) {
                return top;
            }
            int r = root(part);
            uses[r]--;
            if (uses[r] > 0) {
                return top;
            }
            pending[top] = r;
            return top + 1;
        }
    }

    /** Writes types; THE OUT is replaced only by one that is short enough. */
    private static final class Writer {
        private final int[] bytes = new int[OUT_LIMIT];
        private int length;
        private final int[] draft = new int[OUT_LIMIT];
        private int drafted;
        /** Cells that are to be written yet, the next one on top; bytes stand there as -1 - b. */
        private final int[] pending = new int[2 * OUT_LIMIT];
        private int top;
        private final int[] opens = new int[OUT_LIMIT];
        private int openCount;

        private int byteAt(int i) {
            return i >= 0 && i < length ? bytes[i] : NONE;
        }

        private int write(Solver solver, int variable) {
            drafted = 0;
            openCount = 0;
            top = 0;
            push(variable);
            // A turn writes something or leaves more to be written: the limit ends it before this.
            for (int turn = 0; turn < 4 * OUT_LIMIT && top > 0; turn++) {
                // Whatever is pending takes one byte at least.
                if (drafted + top > OUT_LIMIT) {
                    return FULL;
                }
                top--;
                writeOne(solver, pending[top]);
            }
            if (drafted > OUT_LIMIT) {
                return FULL;
            }
            System.arraycopy(draft, 0, bytes, 0, drafted);
            length = drafted;
            return length;
        }

        private void writeOne(Solver solver, int item) {
            if (item < 0) {
                put(-1 - item);
                return;
            }
            int c = solver.root(item);
            switch (solver.sorts[c]) {
                case NUM:
                    putWord("Num");
                    break;
                case BOOL:
                    putWord("Bool");
                    break;
                case CHARS:
                    putWord("Text");
                    break;
                case LIST_TYPE:
                    put('[');
                    pushByte(']');
                    push(solver.lefts[c]);
                    break;
                case PAIR_TYPE:
                    put('(');
                    pushByte(')');
                    push(solver.rights[c]);
                    pushByte(',');
                    push(solver.lefts[c]);
                    break;
                case FUNCTION_TYPE:
                    pushFunction(solver, solver.lefts[c], solver.rights[c]);
                    break;
                default:
                    putOpen(c);
            }
        }

        private void pushFunction(Solver solver, int left, int right) {
            boolean bracketed = solver.sorts[solver.root(left)] == FUNCTION_TYPE;
            push(right);
            pushByte(' ');
            pushByte('>');
            pushByte('-');
            pushByte(' ');
            if (bracketed) {
                pushByte(')');
            }
            push(left);
            if (bracketed) {
                pushByte('(');
            }
        }

        private void putOpen(int c) {
            int i = 0;
            while (i < openCount && opens[i] != c) {
                i++;
            }
            if (i == openCount && openCount < OUT_LIMIT) {
                opens[openCount] = c;
                openCount++;
            }
            put('a' + i % 26);
            // THE OUT has no room for a hundred open types, so one digit tells the alphabet.
            if (i >= 26) {
                put('0' + i / 26);
            }
        }

        private void putWord(String word) {
            for (int i = 0; i < word.length(); i++) {
                put(word.charAt(i));
            }
        }

        /** Bytes over the limit are counted, not kept. */
        private void put(int b) {
            if (drafted < OUT_LIMIT) {
                draft[drafted] = b;
            }
            drafted++;
        }

        private void pushByte(int b) {
            push(-1 - b);
        }

        private void push(int item) {
            if (top < pending.length) {
                pending[top] = item;
                top++;
            }
        }
    }

    /** The SETS found so far, and how far the next one is. */
    private static final class Hunt {
        private final int[] setOf = new int[RULE_ROOM];
        private final boolean[] left = new boolean[RULE_ROOM];
        /** The rule that is left out next; NONE: those in no SET are to be asked first. */
        private int cursor = NONE;
        private int found;
        private int work;
        private boolean all;

        private void restart() {
            Arrays.fill(setOf, NONE);
            cursor = NONE;
            found = 0;
            work = 0;
            all = false;
        }

        private boolean has(int s) {
            return s >= 0 && s < found;
        }

        private int sizeOf(int s) {
            int size = 0;
            for (int r = 0; r < RULE_ROOM; r++) {
                if (setOf[r] == s) {
                    size++;
                }
            }
            return size;
        }

        private int member(int s, int i) {
            int before = 0;
            for (int r = 0; r < RULE_ROOM; r++) {
                if (setOf[r] == s) {
                    if (before == i) {
                        return r;
                    }
                    before++;
                }
            }
            return NONE;
        }

        /** One WORK. */
        private void step(Rules rules, Solver solver) {
            work++;
            if (cursor == NONE) {
                begin(rules, solver);
            } else {
                leaveOut(rules, solver);
            }
        }

        private void begin(Rules rules, Solver solver) {
            for (int r = 0; r < RULE_ROOM; r++) {
                left[r] = r < rules.count && setOf[r] == NONE;
            }
            if (solver.solves(rules, left)) {
                all = true;
            } else {
                cursor = freeBelow(rules.count);
            }
        }

        private void leaveOut(Rules rules, Solver solver) {
            if (cursor < 0 || cursor >= RULE_ROOM) {
                return;
            }
            left[cursor] = false;
            left[cursor] = solver.solves(rules, left);
            cursor = freeBelow(cursor);
            if (cursor == NONE) {
                keep();
            }
        }

        private void keep() {
            for (int r = 0; r < RULE_ROOM; r++) {
                if (left[r]) {
                    setOf[r] = found;
                }
            }
            found++;
        }

        private int freeBelow(int rule) {
            for (int r = rule - 1; r >= 0; r--) {
                if (r < RULE_ROOM && setOf[r] == NONE) {
                    return r;
                }
            }
            return NONE;
        }
    }

    /** The changes that are OFFERED, found once for a text. */
    private static final class Mender {
        private final Rules edited = new Rules();
        private final boolean[] every = new boolean[RULE_ROOM];
        private final int[] offered = new int[OFFER_ROOM];
        private int count;
        private boolean known;

        private Mender() {
            for (int r = 0; r < RULE_ROOM; r++) {
                every[r] = true;
            }
        }

        private void forget() {
            known = false;
            count = 0;
        }

        private boolean has(int i) {
            return i >= 0 && i < count;
        }

        /** One number holds sort, node and meaning; of other sorts than OTHER_NAME, no meaning. */
        private int sortOf(int i) {
            return has(i) ? offered[i] >> 16 : NONE;
        }

        private int nodeOf(int i) {
            return has(i) ? offered[i] >> 8 & 255 : NONE;
        }

        private int meaningOf(int i) {
            return sortOf(i) == OTHER_NAME ? offered[i] & 255 : NONE;
        }

        private int costOf(int i) {
            int sort = sortOf(i);
            return sort >= 0 && sort < COSTS.length ? COSTS[sort] : NONE;
        }

        /** In the order of costs; those of one cost by nodes, then by sorts, then by meanings. */
        private void collect(Program program, Solver solver) {
            if (known) {
                return;
            }
            known = true;
            count = 0;
            if (solver.solves(program.rules, every)) {
                return;
            }
            Tree tree = program.tree;
            for (int n = 0; n < tree.count; n++) {
                if (tree.kinds[n] == NAME) {
                    offerNames(program, solver, n);
                } else if (tree.kinds[n] == NUMBER || tree.kinds[n] == TEXT) {
                    attempt(program, solver, OTHER_LITERAL, n, NONE);
                }
            }
            for (int n = 0; n < tree.count; n++) {
                if (tree.callsCall(n)) {
                    attempt(program, solver, SWAP, n, NONE);
                } else if (tree.kinds[n] == PLUS || tree.kinds[n] == JOIN) {
                    attempt(program, solver, OTHER_SIGN, n, NONE);
                }
            }
            for (int n = 0; n < tree.count; n++) {
                if (tree.kinds[n] == CALL) {
                    attempt(program, solver, DROP, n, NONE);
                }
            }
            for (int n = 0; n < tree.count; n++) {
                offerWraps(program, solver, n);
            }
        }

        /** If the text conflicts without the NAME's rule too, no other meaning can mend it. */
        private void offerNames(Program program, Solver solver, int n) {
            edited.copyAll(program.rules);
            edited.silence(n, n);
            if (!solver.solves(edited, every)) {
                return;
            }
            Tree tree = program.tree;
            for (int m = 0; m < program.names.next; m++) {
                if (m != tree.meanings[n] && program.names.reaches(m, tree.scopes[n])) {
                    attempt(program, solver, OTHER_NAME, n, m);
                }
            }
        }

        /** If the text conflicts with nothing known of the node from outside, no wrapping mends it. */
        private void offerWraps(Program program, Solver solver, int n) {
            edited.copyAll(program.rules);
            edited.wrap(n);
            if (solver.solves(edited, every)) {
                attempt(program, solver, IN_LIST, n, NONE);
                attempt(program, solver, IN_SHOW, n, NONE);
                attempt(program, solver, IN_HEAD, n, NONE);
            }
        }

        private void attempt(Program program, Solver solver, int sort, int n, int meaning) {
            edit(program, sort, n, meaning);
            if (count < OFFER_ROOM && solver.solves(edited, every)) {
                offered[count] = sort << 16 | n << 8 | meaning & 255;
                count++;
            }
        }

        /** The types of the text with the i-th change, left in the solver. */
        private boolean solvesWith(Program program, Solver solver, int i) {
            if (!has(i)) {
                return false;
            }
            edit(program, sortOf(i), nodeOf(i), meaningOf(i));
            return solver.solves(edited, every);
        }

        private void edit(Program program, int sort, int n, int meaning) {
            Tree tree = program.tree;
            edited.copyAll(program.rules);
            switch (sort) {
                case OTHER_NAME:
                    edited.silence(n, n);
                    edited.addOwn(tree, n, NAME, meaning);
                    break;
                case OTHER_LITERAL:
                    edited.silence(n, n);
                    edited.addOwn(tree, n, tree.kinds[n] == NUMBER ? TEXT : NUMBER, NONE);
                    break;
                case SWAP:
                    swap(tree, n);
                    break;
                case OTHER_SIGN:
                    edited.silence(n, n);
                    edited.addOwn(tree, n, tree.kinds[n] == PLUS ? JOIN : PLUS, NONE);
                    break;
                case DROP:
                    edited.silence(n, tree.ends[n]);
                    addRule(tree, n, SAME, n, tree.firsts[n]);
                    break;
                default:
                    wrapIn(tree, sort, n);
            }
        }

        private void swap(Tree tree, int n) {
            if (!tree.callsCall(n)) {
                return;
            }
            int inner = tree.firsts[n];
            edited.silence(n, n);
            edited.silence(inner, inner);
            int called = tree.firsts[inner];
            edited.add(tree.places[inner] * 4, inner, FUNCTION_OF, called, tree.seconds[n], inner);
            edited.add(tree.places[n] * 4, n, FUNCTION_OF, inner, tree.seconds[inner], n);
        }

        private void wrapIn(Tree tree, int sort, int n) {
            int wrapped = edited.wrappedVariable();
            edited.wrap(n);
            if (sort == IN_LIST) {
                addRule(tree, n, LIST_OF, n, wrapped);
            } else if (sort == IN_SHOW) {
                addRule(tree, n, CONSTANT, n, CHARS);
            } else {
                addRule(tree, n, LIST_OF, wrapped, n);
            }
        }

        private void addRule(Tree tree, int n, int form, int x, int y) {
            edited.add(tree.places[n] * 4, n, form, x, y, NONE);
        }
    }
}
