import java.util.Arrays;

/** Proves small annotated programs, tells numbers for which a condition fails, and runs the programs. */
public final class TripleDesk {
    private static final int NONE = -1;

    private static final int TAPE_SIZE = 400;
    private static final int MOST_DIGITS = 3;
    private static final int MOST_ATOMS = 8;
    private static final int MOST_NESTED = 10;
    private static final int MOST_STATEMENTS = 20;
    private static final int MOST_BRANCHES = 4;
    private static final int MOST_LOOPS = 4;
    private static final int MOST_CLAIMS = 1 + 3 * MOST_LOOPS + (MOST_STATEMENTS - MOST_LOOPS);
    private static final int MOST_ROWS = 5000;
    private static final int MOST_STEPS = 2000;
    // A path down a formula has at most 18 nodes of a condition, one for each statement, one more for each if,
    // and a few of the claim itself: 64 stands above all of them together.
    private static final int MOST_LEVELS = 64;

    private static final int VARIABLES = 6;
    private static final int NAMES = 10;
    // A term is packed as (number << NAME_BITS) | name; a number alone has the name ZERO, which is also the
    // point that it is measured from, so that all terms are "a point and a number".
    private static final int ZERO = NAMES;
    private static final int POINTS = NAMES + 1;
    private static final int NAME_BITS = 4;
    private static final int NAME_MASK = 15;

    // A token is packed as (place << PLACE_SHIFT) | (amount << SORT_BITS) | sort.
    private static final int SORT_BITS = 7;
    private static final int SORT_MASK = 127;
    private static final int AMOUNT_MASK = 1023;
    private static final int PLACE_SHIFT = 17;

    // The opposite of a comparison is the one that differs in the lowest bit.
    private static final int LESS = 0;
    private static final int AT_LEAST = 1;
    private static final int AT_MOST = 2;
    private static final int MORE = 3;
    private static final int SAME = 4;
    private static final int OTHER = 5;
    private static final int NOT = 6;
    private static final int AND = 7;
    private static final int OR = 8;

    // The sorts of tokens; a sign that is one byte long is its own sort. The sort of the token that begins a
    // statement is also the kind of that statement.
    private static final int END = 0;
    private static final int BAD = 1;
    private static final int VARIABLE = 2;
    private static final int GHOST = 3;
    private static final int NUMBER = 4;
    private static final int COMPARE = 5;
    private static final int BECOMES = 6;
    private static final int SKIP = 7;
    private static final int IF = 8;
    private static final int THEN = 9;
    private static final int ELSE = 10;
    private static final int FI = 11;
    private static final int WHILE = 12;
    private static final int INV = 13;
    private static final int VAR = 14;
    private static final int DO = 15;
    private static final int OD = 16;
    private static final int ASSERT = 17;
    private static final int BLANK = ' ';
    private static final int CUT = '{';

    private static final int OF_PROGRAM = 0;
    private static final int OF_BODY = 1;
    private static final int OF_EXIT = 2;
    private static final int OF_VARIANT = 3;
    private static final int OF_CUT = 4;

    private static final int VALID = 1;
    private static final int NOT_VALID = 0;
    private static final int UNKNOWN = -1;

    private static final int ENDED = 0;
    private static final int STOPPED = 1;
    private static final int FAILED = 2;
    private static final int FALSE_ASSERT = -2;

    private final Tokens tokens = new Tokens();
    private final Reader reader = new Reader(tokens);
    private final Maker maker = new Maker();
    private final Prover prover = new Prover();
    private final Findings findings = new Findings();
    private final Paper paper = new Paper();
    private final Runner runner = new Runner();
    private Nodes before = new Nodes();
    private Nodes after = new Nodes();
    private Nodes spareNodes = new Nodes();
    private Listing listing = new Listing();
    private Listing spareListing = new Listing();
    private boolean loaded;

    public TripleDesk() {
        before.add(SAME, ZERO, ZERO);
        after.add(SAME, ZERO, ZERO);
    }

    public boolean type(long w, int n) {
        return tokens.append(w, n);
    }

    public int pre() {
        int answer = reader.takeCondition(spareNodes);
        if (answer == 0) {
            Nodes old = before;
            before = spareNodes;
            spareNodes = old;
            forgetClaims();
        }
        return answer;
    }

    public int post() {
        int answer = reader.takeCondition(spareNodes);
        if (answer == 0) {
            Nodes old = after;
            after = spareNodes;
            spareNodes = old;
            forgetClaims();
        }
        return answer;
    }

    public int program() {
        int answer = reader.takeProgram(spareListing);
        if (answer == 0) {
            Listing old = listing;
            listing = spareListing;
            spareListing = old;
            loaded = true;
            runner.clear();
            forgetClaims();
        }
        return answer;
    }

    public int conditions() throws IllegalStateException {
        needProgram();
        return listing.claims;
    }

    public int about(int k, int what) throws IllegalStateException, IndexOutOfBoundsException {
        needClaim(k);
        switch (what) {
            case 0:
                return listing.claimKind[k];
            case 1:
                return listing.claimOf[k] + 1;
            case 2:
                examine(k);
                return findings.rows[k];
            case 3:
                examine(k);
                return findings.atoms[k];
            case 4:
                examine(k);
                return findings.first[k];
            default:
                throw new IndexOutOfBoundsException();
        }
    }

    public int valid(int k) throws IllegalStateException, IndexOutOfBoundsException {
        needClaim(k);
        examine(k);
        return findings.verdict(k);
    }

    public boolean proved() throws IllegalStateException {
        needProgram();
        boolean all = true;
        for (int k = 0; all && k < listing.claims; k++) {
            examine(k);
            all = findings.verdict(k) == VALID;
        }
        return all;
    }

    public int counter(int k, int v) throws IllegalStateException, IndexOutOfBoundsException {
        needClaim(k);
        examine(k);
        if (findings.verdict(k) != NOT_VALID) {
            throw new IllegalStateException();
        }
        if (v < 0 || v >= NAMES) {
            throw new IndexOutOfBoundsException();
        }
        return findings.number(k, v);
    }

    public int say(int k) throws IllegalStateException, IndexOutOfBoundsException {
        needClaim(k);
        maker.make(listing, before, after, k);
        return paper.write(maker.formula);
    }

    public int out(int i) throws IndexOutOfBoundsException {
        if (i < 0 || i >= paper.size) {
            throw new IndexOutOfBoundsException();
        }
        return paper.bytes[i];
    }

    public void start(int v, int value) throws IndexOutOfBoundsException {
        needVariable(v);
        runner.values[v] = value;
    }

    public int run(int steps) throws IllegalStateException, IllegalArgumentException {
        needProgram();
        if (steps < 0 || steps > MOST_STEPS) {
            throw new IllegalArgumentException();
        }
        return runner.go(listing, steps);
    }

    public long value(int v) throws IndexOutOfBoundsException {
        needVariable(v);
        return runner.values[v];
    }

    public boolean holds(int what) throws IndexOutOfBoundsException {
        if (what != 0 && what != 1) {
            throw new IndexOutOfBoundsException();
        }
        Nodes asked = what == 0 ? before : after;
        return runner.truth(asked, asked.root());
    }

    private void needProgram() {
        if (!loaded) {
            throw new IllegalStateException();
        }
    }

    private void needClaim(int k) {
        needProgram();
        if (k < 0 || k >= listing.claims) {
            throw new IndexOutOfBoundsException();
        }
    }

    private void needVariable(int v) {
        if (v < 0 || v >= VARIABLES) {
            throw new IndexOutOfBoundsException();
        }
    }

    private void forgetClaims() {
        maker.forget();
        findings.clear();
    }

    private void examine(int k) {
        if (!findings.known(k)) {
            maker.make(listing, before, after, k);
            prover.count(maker.formula);
            prover.search();
            findings.keep(k, prover);
        }
    }

    /** The tape, and the tokens of the text that was taken from it. */
    private static final class Tokens {
        private final byte[] tape = new byte[TAPE_SIZE];
        private final int[] tokens = new int[TAPE_SIZE + 1];
        private int size;
        private int ahead;
        private int at;
        private int fault = NONE;
        /** The sort of the token that is looked at: BAD for good, once the fault is found. */
        int next;
        /** The name, the number or the comparison that the token stands for. */
        int amount;

        boolean append(long w, int n) {
            if (n < 1 || n > 8 || size + n > TAPE_SIZE) {
                return false;
            }
            for (int i = 0; i < n; i++) {
                tape[size + i] = (byte) (w >>> (8 * i));
            }
            size += n;
            return true;
        }

        void takeTape() {
            int count = 0;
            ahead = 0;
            for (int turn = 0; turn < TAPE_SIZE && ahead < size; turn++) {
                int place = ahead;
                amount = 0;
                int sort = scan(tape[place]);
                if (sort != BLANK) {
                    tokens[count] = (place << PLACE_SHIFT) | ((amount & AMOUNT_MASK) << SORT_BITS) | sort;
                    count++;
                }
            }
            tokens[count] = (size << PLACE_SHIFT) | END;
            size = 0;
            fault = NONE;
            at = NONE;
            pass();
        }

        /** 0, or the fault and 1. */
        int answer() {
            if (next != END) {
                refuse();
            }
            return fault + 1;
        }

        void need(int sort) {
            if (next == sort) {
                pass();
            } else {
                refuse();
            }
        }

        void refuse() {
            if (fault == NONE) {
                fault = tokens[at] >> PLACE_SHIFT;
                next = BAD;
            }
        }

        void pass() {
            if (fault == NONE && at < TAPE_SIZE) {
                at++;
                next = tokens[at] & SORT_MASK;
                amount = tokens[at] >> SORT_BITS & AMOUNT_MASK;
            }
        }

        private int scan(int head) {
            if (isLetter(head)) {
                return word(head);
            }
            return isDigit(head) ? digits() : sign(head);
        }

        private int word(int head) {
            int place = ahead;
            while (ahead < size && isLetter(tape[ahead])) {
                ahead++;
            }
            if (ahead - place > 1) {
                return keyword(place);
            }
            if (head <= 'f') {
                amount = head - 'a';
                return VARIABLE;
            }
            if (head >= 'w') {
                amount = head - 'w' + VARIABLES;
                return GHOST;
            }
            return BAD;
        }

        private int keyword(int place) {
            if (reads("skip", place)) return SKIP;
            if (reads("if", place)) return IF;
            if (reads("then", place)) return THEN;
            if (reads("else", place)) return ELSE;
            if (reads("fi", place)) return FI;
            if (reads("while", place)) return WHILE;
            if (reads("inv", place)) return INV;
            if (reads("var", place)) return VAR;
            if (reads("do", place)) return DO;
            if (reads("od", place)) return OD;
            return reads("assert", place) ? ASSERT : BAD;
        }

        private boolean reads(String word, int place) {
            boolean same = word.length() == ahead - place;
            for (int i = 0; same && i < word.length(); i++) {
                same = tape[place + i] == word.charAt(i);
            }
            return same;
        }

        private int digits() {
            int place = ahead;
            while (ahead < size && isDigit(tape[ahead])) {
                amount = 10 * amount + tape[ahead] - '0';
                ahead++;
            }
            return ahead - place > MOST_DIGITS ? BAD : NUMBER;
        }

        private int sign(int head) {
            ahead++;
            boolean equal = ahead < size && tape[ahead] == '=';
            switch (head) {
                case '=':
                    return comparison(SAME, false);
                case '#':
                    return comparison(OTHER, false);
                case '<':
                    return comparison(equal ? AT_MOST : LESS, equal);
                case '>':
                    return comparison(equal ? AT_LEAST : MORE, equal);
                case ':':
                    ahead += equal ? 1 : 0;
                    return equal ? BECOMES : BAD;
                case BLANK:
                case '&':
                case '|':
                case '!':
                case '(':
                case ')':
                case '{':
                case '}':
                case ';':
                case '+':
                case '-':
                    return head;
                default:
                    return BAD;
            }
        }

        private int comparison(int op, boolean twoBytes) {
            ahead += twoBytes ? 1 : 0;
            amount = op;
            return COMPARE;
        }

        private static boolean isLetter(int c) {
            return c >= 'a' && c <= 'z';
        }

        private static boolean isDigit(int c) {
            return c >= '0' && c <= '9';
        }
    }

    /** Formulas, each node behind its parts; an atom's parts are its two terms. */
    private static final class Nodes {
        byte[] op = new byte[8];
        int[] left = new int[8];
        int[] right = new int[8];
        int size;

        void clear() {
            size = 0;
        }

        int root() {
            return size - 1;
        }

        int add(int operation, int first, int second) {
            if (size == op.length) {
                op = Arrays.copyOf(op, 2 * size);
                left = Arrays.copyOf(left, 2 * size);
                right = Arrays.copyOf(right, 2 * size);
            }
            op[size] = (byte) operation;
            left[size] = first;
            right[size] = second;
            return size++;
        }
    }

    /** A program that was read, with the list of its claims (what the document calls its conditions). */
    private static final class Listing {
        final Nodes nodes = new Nodes();
        final byte[] kind = new byte[MOST_STATEMENTS];
        final byte[] owner = new byte[MOST_STATEMENTS];
        final byte[] sibling = new byte[MOST_STATEMENTS];
        final byte[] first = new byte[MOST_STATEMENTS];
        final byte[] second = new byte[MOST_STATEMENTS];
        final short[] test = new short[MOST_STATEMENTS];
        final short[] kept = new short[MOST_STATEMENTS];
        final int[] term = new int[MOST_STATEMENTS];
        /** The variable of an assignment, the ghost of a while with a variant. */
        final byte[] name = new byte[MOST_STATEMENTS];
        final byte[] claimKind = new byte[MOST_CLAIMS];
        final byte[] claimOf = new byte[MOST_CLAIMS];
        int claims;
        private int size;
        private int branches;
        private int loops;
        private int variants;

        void clear() {
            nodes.clear();
            size = 0;
            branches = 0;
            loops = 0;
            variants = 0;
            claims = 0;
            addClaim(OF_PROGRAM, NONE);
        }

        boolean admits(int sort) {
            if (size == MOST_STATEMENTS) {
                return false;
            }
            switch (sort) {
                case VARIABLE:
                case SKIP:
                case ASSERT:
                case CUT:
                    return true;
                case IF:
                    return branches < MOST_BRANCHES;
                case WHILE:
                    return loops < MOST_LOOPS;
                default:
                    return false;
            }
        }

        /** To be called for a sort that is admitted. */
        int add(int sort, int within) {
            kind[size] = (byte) sort;
            owner[size] = (byte) within;
            sibling[size] = NONE;
            first[size] = NONE;
            second[size] = NONE;
            name[size] = NONE;
            branches += sort == IF ? 1 : 0;
            loops += sort == WHILE ? 1 : 0;
            return size++;
        }

        void addVariant(int s, int packed) {
            term[s] = packed;
            name[s] = (byte) (VARIABLES + variants);
            variants++;
        }

        void addClaim(int sort, int s) {
            if (claims < MOST_CLAIMS) {
                claimKind[claims] = (byte) sort;
                claimOf[claims] = (byte) s;
                claims++;
            }
        }

        /** What comes when s is done: a later statement, the while whose body ends here, or NONE at the end. */
        int behind(int s) {
            int at = s;
            for (int climbs = 0; climbs < MOST_STATEMENTS && sibling[at] == NONE; climbs++) {
                at = owner[at];
                if (at == NONE || kind[at] == WHILE) {
                    return at;
                }
            }
            return sibling[at];
        }
    }

    /** Reads conditions and programs from the tokens. Once a token is refused, nothing more is taken. */
    private static final class Reader {
        private final Tokens text;
        private Listing listing;
        private Nodes nodes;
        private boolean ghosts;
        private int atoms;

        Reader(Tokens text) {
            this.text = text;
        }

        int takeCondition(Nodes into) {
            text.takeTape();
            into.clear();
            nodes = into;
            condition(false);
            return text.answer();
        }

        int takeProgram(Listing into) {
            text.takeTape();
            into.clear();
            listing = into;
            nodes = into.nodes;
            statements(NONE);
            return text.answer();
        }

        private int statements(int owner) {
            int start = statement(owner);
            int last = start;
            for (int more = 0; more < MOST_STATEMENTS && text.next == ';'; more++) {
                text.pass();
                int s = statement(owner);
                if (last != NONE) {
                    listing.sibling[last] = (byte) s;
                }
                last = s;
            }
            return start;
        }

        /** The limits of the document, which admits() guards, keep the statements within one another few. */
        private int statement(int owner) {
            int sort = text.next;
            if (!listing.admits(sort)) {
                text.refuse();
                return NONE;
            }
            int s = listing.add(sort, owner);
            int name = text.amount;
            text.pass();
            switch (sort) {
                case VARIABLE:
                    assignment(s, name);
                    break;
                case IF:
                    branch(s);
                    break;
                case WHILE:
                    loop(s);
                    break;
                case ASSERT:
                    listing.test[s] = (short) condition(false);
                    break;
                case CUT:
                    listing.addClaim(OF_CUT, s);
                    listing.test[s] = (short) condition(true);
                    text.need('}');
                    break;
                default:
                    break;
            }
            return s;
        }

        private void assignment(int s, int name) {
            text.need(BECOMES);
            listing.name[s] = (byte) name;
            listing.term[s] = term(false);
        }

        private void branch(int s) {
            listing.test[s] = (short) condition(false);
            text.need(THEN);
            listing.first[s] = (byte) statements(s);
            text.need(ELSE);
            listing.second[s] = (byte) statements(s);
            text.need(FI);
        }

        private void loop(int s) {
            listing.test[s] = (short) condition(false);
            text.need(INV);
            listing.kept[s] = (short) condition(true);
            listing.addClaim(OF_BODY, s);
            listing.addClaim(OF_EXIT, s);
            if (text.next == VAR) {
                text.pass();
                listing.addVariant(s, term(false));
                listing.addClaim(OF_VARIANT, s);
            }
            text.need(DO);
            listing.first[s] = (byte) statements(s);
            text.need(OD);
        }

        private int condition(boolean withGhosts) {
            ghosts = withGhosts;
            atoms = 0;
            return ors(0);
        }

        private int ors(int deep) {
            int all = ands(deep);
            for (int more = 0; more < MOST_ATOMS && text.next == '|'; more++) {
                text.pass();
                all = nodes.add(OR, all, ands(deep));
            }
            return all;
        }

        private int ands(int deep) {
            int all = part(deep);
            for (int more = 0; more < MOST_ATOMS && text.next == '&'; more++) {
                text.pass();
                all = nodes.add(AND, all, part(deep));
            }
            return all;
        }

        private int part(int deep) {
            boolean negated = text.next == '!';
            if (!negated && text.next != '(') {
                return atom();
            }
            if (deep == MOST_NESTED) {
                text.refuse();
                return NONE;
            }
            text.pass();
            if (negated) {
                return nodes.add(NOT, part(deep + 1), NONE);
            }
            int inner = ors(deep + 1);
            text.need(')');
            return inner;
        }

        private int atom() {
            if (atoms == MOST_ATOMS) {
                text.refuse();
                return NONE;
            }
            atoms++;
            int left = term(ghosts);
            int op = text.amount;
            text.need(COMPARE);
            return nodes.add(op, left, term(ghosts));
        }

        private int term(boolean withGhosts) {
            int name = ZERO;
            if (text.next == VARIABLE || withGhosts && text.next == GHOST) {
                name = text.amount;
                text.pass();
                if (text.next != '+' && text.next != '-') {
                    return packed(0, name);
                }
            }
            boolean minus = text.next == '-';
            if (minus || text.next == '+' && name != ZERO) {
                text.pass();
            }
            if (text.next != NUMBER) {
                text.refuse();
            }
            int number = text.amount;
            text.pass();
            return packed(minus ? -number : number, name);
        }

        private static int packed(int number, int name) {
            return (number << NAME_BITS) | name;
        }
    }

    /** Makes the formula of a claim. */
    private static final class Maker {
        final Nodes formula = new Nodes();
        // Walking forwards with the term that each name stands for by now puts the same terms into what is
        // said at the end as going backwards does, and no formula is made that is not part of the answer.
        private final int[] stands = new int[NAME_MASK + 1];
        private Listing listing;
        private Nodes after;
        private int made = NONE;

        void forget() {
            made = NONE;
        }

        void make(Listing program, Nodes before, Nodes behindAll, int claim) {
            if (made == claim) {
                return;
            }
            made = claim;
            formula.clear();
            listing = program;
            after = behindAll;
            for (int name = 0; name < stands.length; name++) {
                stands[name] = name;
            }
            int s = listing.claimOf[claim];
            int p = s == NONE ? copy(before, before.root()) : premise(listing.claimKind[claim], s);
            int not = formula.add(NOT, p, NONE);
            formula.add(OR, not, conclusion(listing.claimKind[claim], s));
        }

        private int premise(int kind, int s) {
            if (kind == OF_CUT) {
                return copy(listing.nodes, listing.test[s]);
            }
            int invariant = copy(listing.nodes, listing.kept[s]);
            int test = copy(listing.nodes, listing.test[s]);
            if (kind == OF_EXIT) {
                return formula.add(AND, invariant, formula.add(NOT, test, NONE));
            }
            int inside = formula.add(AND, invariant, test);
            if (kind == OF_VARIANT || listing.name[s] == NONE) {
                return inside;
            }
            return formula.add(AND, inside, formula.add(SAME, listing.term[s], listing.name[s]));
        }

        private int conclusion(int kind, int s) {
            switch (kind) {
                case OF_PROGRAM:
                    return wp(0);
                case OF_BODY:
                    return wp(listing.first[s]);
                case OF_VARIANT:
                    return formula.add(AT_LEAST, listing.term[s], ZERO);
                default:
                    return wpBehind(s);
            }
        }

        /** WP of s and all behind it. Each call is for a later statement, and there are few of them. */
        private int wp(int s) {
            switch (listing.kind[s]) {
                case VARIABLE:
                    return wpOfAssignment(s);
                case IF:
                    return wpOfBranch(s);
                case ASSERT:
                    return formula.add(AND, copy(listing.nodes, listing.test[s]), wpBehind(s));
                case CUT:
                    return copy(listing.nodes, listing.test[s]);
                case WHILE:
                    return copy(listing.nodes, listing.kept[s]);
                default:
                    return wpBehind(s);
            }
        }

        private int wpOfAssignment(int s) {
            int name = listing.name[s];
            int old = stands[name];
            stands[name] = put(listing.term[s]);
            int all = wpBehind(s);
            stands[name] = old;
            return all;
        }

        private int wpOfBranch(int s) {
            int yes = formula.add(AND, copy(listing.nodes, listing.test[s]), wp(listing.first[s]));
            int not = formula.add(NOT, copy(listing.nodes, listing.test[s]), NONE);
            int no = formula.add(AND, not, wp(listing.second[s]));
            return formula.add(OR, yes, no);
        }

        private int wpBehind(int s) {
            int to = listing.behind(s);
            if (to == NONE) {
                return copy(after, after.root());
            }
            return to > s ? wp(to) : endOfBody(to);
        }

        private int endOfBody(int loop) {
            int invariant = copy(listing.nodes, listing.kept[loop]);
            if (listing.name[loop] == NONE) {
                return invariant;
            }
            int less = formula.add(LESS, put(listing.term[loop]), listing.name[loop]);
            return formula.add(AND, invariant, less);
        }

        private int copy(Nodes from, int node) {
            int op = from.op[node];
            if (op < NOT) {
                return formula.add(op, put(from.left[node]), put(from.right[node]));
            }
            int left = copy(from, from.left[node]);
            return formula.add(op, left, op == NOT ? NONE : copy(from, from.right[node]));
        }

        private int put(int term) {
            return stands[term & NAME_MASK] + (term & ~NAME_MASK);
        }
    }

    /** Decides a formula by the rows of what it is not. */
    private static final class Prover {
        final Bounds bounds = new Bounds();
        int rows;
        int atoms;
        int first;
        private Nodes formula;
        // A demand is 2 * node, and 1 more when the node is to be true.
        private short[] rowsOf = new short[16];
        private final int[] demand = new int[MOST_LEVELS];
        private final int[] index = new int[MOST_LEVELS];
        private int waiting;

        void count(Nodes asked) {
            formula = asked;
            if (rowsOf.length < 2 * asked.size) {
                rowsOf = new short[2 * asked.op.length];
            }
            atoms = 0;
            for (int node = 0; node < asked.size; node++) {
                countNode(node);
            }
            rows = rowsOf[2 * asked.root()];
        }

        private void countNode(int node) {
            int op = formula.op[node];
            int isFalse = 2 * node;
            int isTrue = isFalse + 1;
            if (op < NOT) {
                atoms++;
                rowsOf[isTrue] = (short) (op == OTHER ? 2 : 1);
                rowsOf[isFalse] = (short) (op == SAME ? 2 : 1);
                return;
            }
            int left = 2 * formula.left[node];
            if (op == NOT) {
                rowsOf[isTrue] = rowsOf[left];
                rowsOf[isFalse] = rowsOf[left + 1];
                return;
            }
            int right = 2 * formula.right[node];
            int both = op == AND ? 1 : 0;
            int either = 1 - both;
            rowsOf[isFalse + both] = limited(rowsOf[left + both] * rowsOf[right + both]);
            rowsOf[isFalse + either] = limited(rowsOf[left + either] + rowsOf[right + either]);
        }

        private static short limited(int many) {
            return (short) Math.min(many, MOST_ROWS + 1);
        }

        void search() {
            int row = rows > MOST_ROWS ? rows : 0;
            first = NONE;
            for (int turn = 0; turn < MOST_ROWS && row < rows; turn++) {
                if (fits(row)) {
                    first = row;
                    return;
                }
                row += rowsAlike();
            }
        }

        /** Whether there are integers for the row; if not, the demands behind the atom that clashed still wait. */
        private boolean fits(int row) {
            bounds.clear();
            waiting = 0;
            ask(2 * formula.root(), row);
            boolean fit = true;
            for (int turn = 0; fit && waiting > 0 && turn < formula.size; turn++) {
                waiting--;
                int node = demand[waiting] >> 1;
                if (formula.op[node] < NOT) {
                    fit = bounds.take(comparison(waiting), formula.left[node], formula.right[node]);
                } else {
                    divide(node, demand[waiting] & 1, index[waiting]);
                }
            }
            return fit;
        }

        /** Rows that differ only in the demands that still wait clash at the same atom, and can be passed over. */
        private int rowsAlike() {
            int many = 1;
            for (int i = 0; i < waiting; i++) {
                many *= rowsOf[demand[i]];
            }
            return many;
        }

        private void ask(int wanted, int row) {
            if (waiting < MOST_LEVELS) {
                demand[waiting] = wanted;
                index[waiting] = row;
                waiting++;
            }
        }

        private int comparison(int i) {
            int op = formula.op[demand[i] >> 1] ^ 1 ^ (demand[i] & 1);
            if (op != OTHER) {
                return op;
            }
            return index[i] == 0 ? LESS : MORE;
        }

        private void divide(int node, int truth, int row) {
            int op = formula.op[node];
            int left = 2 * formula.left[node] + truth;
            if (op == NOT) {
                ask(left ^ 1, row);
                return;
            }
            int right = 2 * formula.right[node] + truth;
            boolean both = (op == AND) == (truth == 1);
            if (both) {
                int many = Math.max(1, rowsOf[right]);
                ask(right, row % many);
                ask(left, row / many);
            } else if (row < rowsOf[left]) {
                ask(left, row);
            } else {
                ask(right, row - rowsOf[left]);
            }
        }
    }

    /** Numbers for the points, 0 at most and as great as can be under the atoms that were taken. */
    private static final class Bounds {
        private static final int FREE = 1 << 28;
        private final int[] level = new int[POINTS];
        /** At POINTS * from + to: how much more than the one of from the number of to may be. */
        private final int[] most = new int[POINTS * POINTS];
        private final int[] bound = new int[POINTS * POINTS];
        private int bounds;

        Bounds() {
            Arrays.fill(most, FREE);
        }

        void clear() {
            for (int i = 0; i < bounds; i++) {
                most[bound[i]] = FREE;
            }
            bounds = 0;
            Arrays.fill(level, 0);
        }

        int number(int name) {
            return level[name] - level[ZERO];
        }

        /** False when there are no such numbers any more. */
        boolean take(int op, int left, int right) {
            int l = left & NAME_MASK;
            int r = right & NAME_MASK;
            int more = (right >> NAME_BITS) - (left >> NAME_BITS);
            switch (op) {
                case LESS:
                    return bind(l, r, more - 1);
                case AT_MOST:
                    return bind(l, r, more);
                case AT_LEAST:
                    return bind(r, l, -more);
                case MORE:
                    return bind(r, l, -more - 1);
                default:
                    return bind(l, r, more) && bind(r, l, -more);
            }
        }

        private boolean bind(int to, int from, int by) {
            if (to == from) {
                return by >= 0;
            }
            int way = POINTS * from + to;
            if (by >= most[way]) {
                return true;
            }
            if (most[way] == FREE) {
                bound[bounds] = way;
                bounds++;
            }
            most[way] = by;
            if (level[to] <= level[from] + by) {
                return true;
            }
            level[to] = level[from] + by;
            return settle(to, from);
        }

        /**
         * Lowers what must follow. What was there before had a solution, so that only a circle through the new
         * bound can have none, and that lowers the point which the bound comes from.
         */
        private boolean settle(int to, int from) {
            int lowered = 1 << to;
            for (int pass = 0; lowered != 0 && pass < POINTS; pass++) {
                int now = lowered;
                lowered = 0;
                for (int point = 0; point < POINTS; point++) {
                    if ((now >> point & 1) != 0) {
                        lowered |= lowerFrom(point);
                    }
                }
                if ((lowered >> from & 1) != 0) {
                    return false;
                }
            }
            return lowered == 0;
        }

        private int lowerFrom(int point) {
            int lowered = 0;
            int way = POINTS * point;
            for (int to = 0; to < POINTS; to++) {
                int limit = level[point] + most[way + to];
                if (limit < level[to]) {
                    level[to] = limit;
                    lowered |= 1 << to;
                }
            }
            return lowered;
        }
    }

    /** What was found out about the claims of the program. */
    private static final class Findings {
        final short[] rows = new short[MOST_CLAIMS];
        final short[] atoms = new short[MOST_CLAIMS];
        final short[] first = new short[MOST_CLAIMS];
        private final int[] numbers = new int[MOST_CLAIMS * NAMES];

        void clear() {
            Arrays.fill(rows, (short) 0);
        }

        /** Every formula has rows, so that none tells that nobody has asked yet. */
        boolean known(int k) {
            return rows[k] != 0;
        }

        int verdict(int k) {
            if (rows[k] > MOST_ROWS) {
                return UNKNOWN;
            }
            return first[k] == NONE ? VALID : NOT_VALID;
        }

        void keep(int k, Prover prover) {
            rows[k] = (short) prover.rows;
            atoms[k] = (short) prover.atoms;
            first[k] = (short) prover.first;
            for (int name = 0; name < NAMES; name++) {
                numbers[NAMES * k + name] = prover.bounds.number(name);
            }
        }

        int number(int k, int name) {
            return numbers[NAMES * k + name];
        }
    }

    /** What came out. */
    private static final class Paper {
        byte[] bytes = new byte[32];
        int size;

        int write(Nodes formula) {
            size = 0;
            writeNode(formula, formula.root(), 0);
            return size;
        }

        private void writeNode(Nodes formula, int node, int deep) {
            if (deep > MOST_LEVELS) {
                return;
            }
            int op = formula.op[node];
            if (op < NOT) {
                writeTerm(formula.left[node]);
                writeComparison(op);
                writeTerm(formula.right[node]);
            } else if (op == NOT) {
                writeByte('!');
                writeNode(formula, formula.left[node], deep + 1);
            } else {
                writeByte('(');
                writeNode(formula, formula.left[node], deep + 1);
                writeByte(op == AND ? '&' : '|');
                writeNode(formula, formula.right[node], deep + 1);
                writeByte(')');
            }
        }

        private void writeComparison(int op) {
            switch (op) {
                case SAME:
                    writeByte('=');
                    break;
                case OTHER:
                    writeByte('#');
                    break;
                default:
                    writeByte(op == LESS || op == AT_MOST ? '<' : '>');
                    if (op == AT_MOST || op == AT_LEAST) {
                        writeByte('=');
                    }
                    break;
            }
        }

        private void writeTerm(int term) {
            int name = term & NAME_MASK;
            int number = term >> NAME_BITS;
            if (name == ZERO) {
                writeNumber(number);
                return;
            }
            writeByte(name < VARIABLES ? 'a' + name : 'w' + name - VARIABLES);
            if (number > 0) {
                writeByte('+');
            }
            if (number != 0) {
                writeNumber(number);
            }
        }

        private void writeNumber(int number) {
            if (number < 0) {
                writeByte('-');
            }
            int rest = Math.abs(number);
            for (int unit = 1000000; unit > 0; unit /= 10) {
                if (rest >= unit || unit == 1) {
                    writeByte('0' + rest / unit % 10);
                }
            }
        }

        private void writeByte(int b) {
            if (size == bytes.length) {
                bytes = Arrays.copyOf(bytes, 2 * size);
            }
            bytes[size] = (byte) b;
            size++;
        }
    }

    /** The values of the variables, and the runs that change them. */
    private static final class Runner {
        final long[] values = new long[VARIABLES];

        void clear() {
            Arrays.fill(values, 0);
        }

        int go(Listing listing, int steps) {
            int at = 0;
            boolean entered = false;
            for (int step = 0; step < steps; step++) {
                int to = follow(listing, at, entered);
                if (to == NONE) {
                    return ENDED;
                }
                if (to == FALSE_ASSERT) {
                    return FAILED;
                }
                entered = to <= at;
                at = to;
            }
            return STOPPED;
        }

        /** Does one step. A while is a step itself, which comes back to it, before its first look is another. */
        private int follow(Listing listing, int s, boolean entered) {
            switch (listing.kind[s]) {
                case VARIABLE:
                    values[listing.name[s]] = amount(listing.term[s]);
                    return listing.behind(s);
                case IF:
                    return truth(listing.nodes, listing.test[s]) ? listing.first[s] : listing.second[s];
                case WHILE:
                    if (!entered) {
                        return s;
                    }
                    return truth(listing.nodes, listing.test[s]) ? listing.first[s] : listing.behind(s);
                case ASSERT:
                    return truth(listing.nodes, listing.test[s]) ? listing.behind(s) : FALSE_ASSERT;
                default:
                    return listing.behind(s);
            }
        }

        /** The limits of conditions keep the nodes within one another few. */
        boolean truth(Nodes nodes, int node) {
            int left = nodes.left[node];
            int right = nodes.right[node];
            switch (nodes.op[node]) {
                case NOT:
                    return !truth(nodes, left);
                case AND:
                    return truth(nodes, left) && truth(nodes, right);
                case OR:
                    return truth(nodes, left) || truth(nodes, right);
                default:
                    return compare(nodes.op[node], amount(left), amount(right));
            }
        }

        private static boolean compare(int op, long left, long right) {
            switch (op) {
                case LESS:
                    return left < right;
                case AT_LEAST:
                    return left >= right;
                case AT_MOST:
                    return left <= right;
                case MORE:
                    return left > right;
                case SAME:
                    return left == right;
                default:
                    return left != right;
            }
        }

        private long amount(int term) {
            int name = term & NAME_MASK;
            long number = term >> NAME_BITS;
            return name < VARIABLES ? values[name] + number : number;
        }
    }
}
