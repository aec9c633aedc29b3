import java.util.ArrayList;
import java.util.Arrays;
import java.util.List;
import java.util.Random;

/**
 * Compares TripleDesk with a second reading of the document that is as naive as can be: trees of objects, WP by
 * putting terms into formulas backwards, lists of all rows, Bellman and Ford's way for each of them. The texts
 * are made up from fixed seeds, so that every run of this test makes the same calls.
 */
public final class OracleTests {
    private static int wrong = 0;
    private static int checks = 0;

    public static void main(String[] args) {
        int sessions = args.length > 0 ? Integer.parseInt(args[0]) : 4000;
        int from = args.length > 1 ? Integer.parseInt(args[1]) : 0;
        for (int seed = from; seed < from + sessions && wrong < 20; seed++) {
            new Session(seed).play();
        }
        System.out.println(checks + " answers compared, " + wrong + " not as due");
        if (wrong != 0) {
            System.exit(1);
        }
    }

    private static void due(int seed, String what, Object got, Object want) {
        checks++;
        if (!got.equals(want)) {
            wrong++;
            System.out.println("seed " + seed + ": " + what + " answered " + got + ", due is " + want);
        }
    }

    // ---- formulas

    private static final String NAMES = "abcdefwxyz";

    /** A name (or '0' for none) and a number. */
    private record Term(char name, int number) {
        Term with(char v, Term t) {
            return name == v ? new Term(t.name, t.number + number) : this;
        }

        String text() {
            if (name == '0') {
                return Integer.toString(number);
            }
            return name + (number == 0 ? "" : number > 0 ? "+" + number : Integer.toString(number));
        }

        long at(long[] values) {
            return number + (name == '0' ? 0 : values[NAMES.indexOf(name)]);
        }
    }

    private interface Formula {
        Formula with(char v, Term t);

        String text();

        boolean at(long[] values);

        int atoms();

        /** How many rows, at most 5001. */
        int count(boolean truth);

        List<List<Atom>> rows(boolean truth);
    }

    private static int cap(long n) {
        return (int) Math.min(5001, n);
    }

    private record Atom(Term left, String op, Term right) implements Formula {
        public Formula with(char v, Term t) {
            return new Atom(left.with(v, t), op, right.with(v, t));
        }

        public String text() {
            return left.text() + op + right.text();
        }

        public boolean at(long[] values) {
            int c = Long.compare(left.at(values), right.at(values));
            return switch (op) {
                case "<" -> c < 0;
                case "<=" -> c <= 0;
                case "=" -> c == 0;
                case "#" -> c != 0;
                case ">=" -> c >= 0;
                default -> c > 0;
            };
        }

        public int atoms() {
            return 1;
        }

        public int count(boolean truth) {
            return op.equals(truth ? "#" : "=") ? 2 : 1;
        }

        public List<List<Atom>> rows(boolean truth) {
            String is = truth ? op : switch (op) {
                case "<" -> ">=";
                case ">=" -> "<";
                case "<=" -> ">";
                case ">" -> "<=";
                case "=" -> "#";
                default -> "=";
            };
            if (is.equals("#")) {
                return List.of(List.of(new Atom(left, "<", right)), List.of(new Atom(left, ">", right)));
            }
            return List.of(List.of(new Atom(left, is, right)));
        }
    }

    private record Not(Formula p) implements Formula {
        public Formula with(char v, Term t) {
            return new Not(p.with(v, t));
        }

        public String text() {
            return "!" + p.text();
        }

        public boolean at(long[] values) {
            return !p.at(values);
        }

        public int atoms() {
            return p.atoms();
        }

        public int count(boolean truth) {
            return p.count(!truth);
        }

        public List<List<Atom>> rows(boolean truth) {
            return p.rows(!truth);
        }
    }

    private record Both(Formula p, char sign, Formula q) implements Formula {
        public Formula with(char v, Term t) {
            return new Both(p.with(v, t), sign, q.with(v, t));
        }

        public String text() {
            return "(" + p.text() + sign + q.text() + ")";
        }

        public boolean at(long[] values) {
            return sign == '&' ? p.at(values) && q.at(values) : p.at(values) || q.at(values);
        }

        public int atoms() {
            return p.atoms() + q.atoms();
        }

        public int count(boolean truth) {
            long m = p.count(truth);
            long n = q.count(truth);
            return cap((sign == '&') == truth ? m * n : m + n);
        }

        public List<List<Atom>> rows(boolean truth) {
            List<List<Atom>> ps = p.rows(truth);
            List<List<Atom>> qs = q.rows(truth);
            List<List<Atom>> all = new ArrayList<>();
            if ((sign == '&') != truth) {
                all.addAll(ps);
                all.addAll(qs);
                return all;
            }
            for (List<Atom> one : ps) {
                for (List<Atom> other : qs) {
                    List<Atom> row = new ArrayList<>(one);
                    row.addAll(other);
                    all.add(row);
                }
            }
            return all;
        }
    }

    private static Formula and(Formula p, Formula q) {
        return new Both(p, '&', q);
    }

    private static Formula implies(Formula p, Formula q) {
        return new Both(new Not(p), '|', q);
    }

    /** The greatest numbers, 0 at most, for the ten names and for 0 behind them; null when there are none. */
    private static long[] greatest(List<Atom> row) {
        List<long[]> bounds = new ArrayList<>();
        for (Atom atom : row) {
            long l = point(atom.left);
            long r = point(atom.right);
            long more = atom.right.number - atom.left.number;
            switch (atom.op) {
                case "<" -> bounds.add(new long[] {l, r, more - 1});
                case "<=" -> bounds.add(new long[] {l, r, more});
                case ">" -> bounds.add(new long[] {r, l, -more - 1});
                case ">=" -> bounds.add(new long[] {r, l, -more});
                default -> {
                    bounds.add(new long[] {l, r, more});
                    bounds.add(new long[] {r, l, -more});
                }
            }
        }
        long[] numbers = new long[11];
        for (int round = 0; round < 13; round++) {
            boolean changed = false;
            for (long[] b : bounds) {
                long limit = numbers[(int) b[1]] + b[2];
                if (numbers[(int) b[0]] > limit) {
                    numbers[(int) b[0]] = limit;
                    changed = true;
                }
            }
            if (!changed) {
                return numbers;
            }
        }
        return null;
    }

    private static int point(Term t) {
        return t.name == '0' ? 10 : NAMES.indexOf(t.name);
    }

    // ---- programs

    private static final class Statement {
        final int number;
        final String kind;
        char variable;
        Term term;
        char ghost;
        Formula test;
        Formula invariant;
        List<Statement> first;
        List<Statement> second;

        Statement(int number, String kind) {
            this.number = number;
            this.kind = kind;
        }
    }

    private record Claim(int kind, int statement, Formula formula) {
    }

    private static Formula wp(List<Statement> list, int from, Formula q) {
        Formula all = q;
        for (int i = list.size() - 1; i >= from; i--) {
            all = wp(list.get(i), all);
        }
        return all;
    }

    private static Formula wp(Statement s, Formula q) {
        return switch (s.kind) {
            case ":=" -> q.with(s.variable, s.term);
            case "skip" -> q;
            case "if" -> new Both(and(s.test, wp(s.first, 0, q)), '|', and(new Not(s.test), wp(s.second, 0, q)));
            case "assert" -> and(s.test, q);
            case "{" -> s.test;
            default -> s.invariant;
        };
    }

    private static void claims(List<Statement> list, Formula q, List<Claim> into) {
        for (int i = 0; i < list.size(); i++) {
            Statement s = list.get(i);
            Formula behind = wp(list, i + 1, q);
            switch (s.kind) {
                case "{" -> into.add(new Claim(4, s.number, implies(s.test, behind)));
                case "if" -> {
                    claims(s.first, behind, into);
                    claims(s.second, behind, into);
                }
                case "while" -> claimsOfLoop(s, behind, into);
                default -> {
                }
            }
        }
    }

    private static void claimsOfLoop(Statement s, Formula behind, List<Claim> into) {
        Formula inside = and(s.invariant, s.test);
        Formula start = inside;
        Formula end = s.invariant;
        if (s.term != null) {
            Term ghost = new Term(s.ghost, 0);
            start = and(inside, new Atom(s.term, "=", ghost));
            end = and(s.invariant, new Atom(s.term, "<", ghost));
        }
        into.add(new Claim(1, s.number, implies(start, wp(s.first, 0, end))));
        into.add(new Claim(2, s.number, implies(and(s.invariant, new Not(s.test)), behind)));
        if (s.term != null) {
            into.add(new Claim(3, s.number, implies(inside, new Atom(s.term, ">=", new Term('0', 0)))));
        }
        claims(s.first, end, into);
    }

    // ---- texts

    private static final class Fault extends RuntimeException {
        final int place;

        Fault(int place) {
            this.place = place;
        }
    }

    /** Reads by eating the text from the left; a token is a String, "" at the end, "?" for a bad one. */
    private static final class Text {
        private final String text;
        private int place = 0;
        private String token;
        private int atoms;
        private int statements = 0;
        private int ifs = 0;
        private int whiles = 0;
        private int variants = 0;

        Text(String text) {
            this.text = text;
            look();
        }

        private void look() {
            while (place < text.length() && text.charAt(place) == ' ') {
                place++;
            }
            String rest = text.substring(place);
            token = rest.isEmpty() ? "" : "?";
            for (String pattern : new String[] {"[a-z]+", "[0-9]+", ":=|<=|>=|[<>=#&|!(){};+-]"}) {
                java.util.regex.Matcher m = java.util.regex.Pattern.compile(pattern).matcher(rest);
                if (m.lookingAt()) {
                    token = m.group();
                }
            }
            if (token.matches("[0-9]{4,}")) {
                token = "?";
            }
        }

        private String eat(String pattern) {
            if (!token.matches(pattern)) {
                throw new Fault(place);
            }
            String eaten = token;
            place += token.length();
            look();
            return eaten;
        }

        private boolean sees(String pattern) {
            return token.matches(pattern);
        }

        Formula wholeCondition() {
            Formula all = condition(false);
            eat("");
            return all;
        }

        List<Statement> wholeProgram() {
            List<Statement> all = statements();
            eat("");
            return all;
        }

        private List<Statement> statements() {
            List<Statement> all = new ArrayList<>();
            all.add(statement());
            while (sees(";")) {
                eat(";");
                all.add(statement());
            }
            return all;
        }

        private Statement statement() {
            ifs += sees("if") ? 1 : 0;
            whiles += sees("while") ? 1 : 0;
            statements++;
            if (statements > 20 || ifs > 4 || whiles > 4) {
                throw new Fault(place);
            }
            String head = eat("[a-f]|skip|if|while|assert|\\{");
            Statement s = new Statement(statements, head.length() == 1 && !head.equals("{") ? ":=" : head);
            switch (s.kind) {
                case ":=" -> {
                    s.variable = head.charAt(0);
                    eat(":=");
                    s.term = term(false);
                }
                case "if" -> {
                    s.test = condition(false);
                    eat("then");
                    s.first = statements();
                    eat("else");
                    s.second = statements();
                    eat("fi");
                }
                case "while" -> loop(s);
                case "assert" -> s.test = condition(false);
                case "{" -> {
                    s.test = condition(true);
                    eat("}");
                }
                default -> {
                }
            }
            return s;
        }

        private void loop(Statement s) {
            s.test = condition(false);
            eat("inv");
            s.invariant = condition(true);
            if (sees("var")) {
                eat("var");
                s.ghost = "wxyz".charAt(variants++);
                s.term = term(false);
            }
            eat("do");
            s.first = statements();
            eat("od");
        }

        private Formula condition(boolean ghosts) {
            atoms = 0;
            return ors(ghosts, 0);
        }

        private Formula ors(boolean ghosts, int nested) {
            Formula all = ands(ghosts, nested);
            while (sees("\\|")) {
                eat("\\|");
                all = new Both(all, '|', ands(ghosts, nested));
            }
            return all;
        }

        private Formula ands(boolean ghosts, int nested) {
            Formula all = part(ghosts, nested);
            while (sees("&")) {
                eat("&");
                all = new Both(all, '&', part(ghosts, nested));
            }
            return all;
        }

        private Formula part(boolean ghosts, int nested) {
            if (sees("[!(]") && nested == 10) {
                throw new Fault(place);
            }
            if (sees("!")) {
                eat("!");
                return new Not(part(ghosts, nested + 1));
            }
            if (sees("\\(")) {
                eat("\\(");
                Formula inner = ors(ghosts, nested + 1);
                eat("\\)");
                return inner;
            }
            if (atoms == 8) {
                throw new Fault(place);
            }
            atoms++;
            Term left = term(ghosts);
            String op = eat("<|<=|=|#|>=|>");
            return new Atom(left, op, term(ghosts));
        }

        private Term term(boolean ghosts) {
            if (sees("-")) {
                eat("-");
                return new Term('0', -Integer.parseInt(eat("[0-9]+")));
            }
            if (sees("[0-9]+")) {
                return new Term('0', Integer.parseInt(eat("[0-9]+")));
            }
            char name = eat(ghosts ? "[a-fw-z]" : "[a-f]").charAt(0);
            if (!sees("[+-]")) {
                return new Term(name, 0);
            }
            int sign = eat("[+-]").equals("-") ? -1 : 1;
            return new Term(name, sign * Integer.parseInt(eat("[0-9]+")));
        }
    }

    // ---- runs

    private static final class Stop extends RuntimeException {
        final int answer;

        Stop(int answer) {
            this.answer = answer;
        }
    }

    private static final class Run {
        private final long[] values;
        private int left;

        Run(long[] values, int steps) {
            this.values = values;
            this.left = steps;
        }

        int of(List<Statement> list) {
            try {
                goThrough(list);
                return 0;
            } catch (Stop stop) {
                return stop.answer;
            }
        }

        private void step() {
            if (left == 0) {
                throw new Stop(1);
            }
            left--;
        }

        private boolean looks(Formula test) {
            step();
            return test.at(values);
        }

        private void goThrough(List<Statement> list) {
            for (Statement s : list) {
                step();
                switch (s.kind) {
                    case ":=" -> values[s.variable - 'a'] = s.term.at(values);
                    case "if" -> goThrough(s.test.at(values) ? s.first : s.second);
                    case "while" -> {
                        while (looks(s.test)) {
                            goThrough(s.first);
                        }
                    }
                    case "assert" -> {
                        if (!s.test.at(values)) {
                            throw new Stop(2);
                        }
                    }
                    default -> {
                    }
                }
            }
        }
    }

    // ---- made-up texts

    private static final class Inventor {
        private final Random random;
        private int ifs;
        private int whiles;
        private int statements;

        Inventor(Random random) {
            this.random = random;
        }

        private int any(int n) {
            return random.nextInt(n);
        }

        private String oneOf(String... all) {
            return all[any(all.length)];
        }

        String program(int length) {
            ifs = 0;
            whiles = 0;
            statements = 0;
            return statements(length, 0);
        }

        private String statements(int length, int deep) {
            StringBuilder all = new StringBuilder(statement(deep));
            for (int more = any(length); more > 0; more--) {
                all.append(oneOf(";", ";", " ; ")).append(statement(deep));
            }
            return all.toString();
        }

        private String statement(int deep) {
            statements++;
            switch (any(statements > 16 && any(8) > 0 ? 4 : 10)) {
                case 0:
                    return "skip";
                case 1:
                    return "assert " + condition(2, false);
                case 2:
                    return "{" + condition(3, true) + "}";
                case 6:
                case 7:
                    if (deep < 3 && (ifs < 4 || any(10) == 0)) {
                        ifs++;
                        return "if " + condition(2, false) + " then " + statements(2, deep + 1) + " else "
                            + statements(2, deep + 1) + " fi";
                    }
                    break;
                case 8:
                    if (deep < 4 && (whiles < 4 || any(10) == 0)) {
                        whiles++;
                        return "while " + condition(2, false) + " inv " + condition(3, true)
                            + (any(2) == 0 ? "" : " var " + term(false)) + " do " + statements(3, deep + 1) + " od";
                    }
                    break;
                default:
                    break;
            }
            return (char) ('a' + any(6)) + oneOf(":=", " := ") + term(false);
        }

        String condition(int length, boolean ghosts) {
            return condition(length, ghosts, 0);
        }

        private String condition(int length, boolean ghosts, int deep) {
            StringBuilder all = new StringBuilder(part(length, ghosts, deep));
            for (int more = any(length); more > 0; more--) {
                all.append(oneOf("&", "|", " & ", " | ")).append(part(length, ghosts, deep));
            }
            return all.toString();
        }

        private String part(int length, boolean ghosts, int deep) {
            if (deep < 10 && any(6) == 0) {
                return "!" + part(length, ghosts, deep + 1);
            }
            if (deep < 10 && any(6) == 0) {
                return "(" + condition(length, ghosts, deep + 1) + ")";
            }
            return term(ghosts) + oneOf("<", "<=", "=", "#", ">=", ">", " = ") + term(ghosts);
        }

        private String term(boolean ghosts) {
            if (any(5) == 0) {
                return oneOf("", "", "-") + number();
            }
            char name = ghosts && any(6) == 0 ? (char) ('w' + any(4)) : (char) ('a' + any(any(2) == 0 ? 2 : 6));
            return any(2) == 0 ? "" + name : name + oneOf("+", "-") + number();
        }

        private String number() {
            return Integer.toString(any(any(4) == 0 ? 1000 : 5));
        }

        String broken(String text) {
            String[] bits = {"a", "f", "w", "z", "g", "skip", "if", "fi", "then", "else", "while", "inv", "var", "do",
                "od", "assert", ":=", ":", "<=", "<", "=", "#", "&", "|", "!", "(", ")", "{", "}", ";", "+", "-", "0",
                "12", "999", "1000", " ", "?", "\u00e9", "A", "\0", "!!!!!!!!!!!", "(((((((((((", "0=0&0=0&0=0&0=0&"};
            String all = text;
            for (int times = 1 + any(2); times > 0; times--) {
                int at = any(all.length() + 1);
                int to = any(3) == 0 ? at : Math.min(all.length(), at + any(3));
                all = all.substring(0, at) + (any(3) == 0 ? "" : bits[any(bits.length)]) + all.substring(to);
            }
            return any(6) == 0 ? all.substring(0, any(all.length() + 1)) : all;
        }
    }

    // ---- one object and what it should be

    private static final class Session {
        /** What later calls answer is free. */
        private static final int MOST_CALLS = 512;
        private final int seed;
        private final Random random;
        private final Inventor inventor;
        private final TripleDesk desk = new TripleDesk();
        private final long[] values = new long[10];
        private Formula pre = new Text("0=0").wholeCondition();
        private Formula post = pre;
        private List<Statement> program = null;
        private List<Claim> claims = List.of();
        private String out = "";
        private int calls = 0;

        Session(int seed) {
            this.seed = seed;
            this.random = new Random(seed);
            this.inventor = new Inventor(random);
        }

        void play() {
            while (calls < MOST_CALLS) {
                switch (random.nextInt(4)) {
                    case 0 -> takePre();
                    case 1 -> takePost();
                    default -> takeProgram();
                }
                if (program != null) {
                    askClaims();
                }
                tryRuns();
            }
        }

        private String made(String text) {
            String one = random.nextInt(3) == 0 ? inventor.broken(text) : text;
            if (random.nextInt(8) == 0) {
                one = " " + one + "  ";
            }
            return one.substring(0, Math.min(400, one.length()));
        }

        private void type(String text) {
            for (int at = 0; at < text.length(); at += 8) {
                int n = Math.min(8, text.length() - at);
                long w = random.nextLong();
                for (int i = 0; i < n; i++) {
                    w = w & ~(255L << (8 * i)) | (long) text.charAt(at + i) << (8 * i);
                }
                due("type", desk.type(w, n), true);
            }
        }

        private void takePre() {
            String text = made(inventor.condition(4, false));
            type(text);
            int answer = 0;
            try {
                pre = new Text(text).wholeCondition();
            } catch (Fault fault) {
                answer = fault.place + 1;
            }
            due("pre of " + text, desk.pre(), answer);
            makeClaims();
        }

        private void takePost() {
            String text = made(inventor.condition(4, false));
            type(text);
            int answer = 0;
            try {
                post = new Text(text).wholeCondition();
            } catch (Fault fault) {
                answer = fault.place + 1;
            }
            due("post of " + text, desk.post(), answer);
            makeClaims();
        }

        private void takeProgram() {
            String text = made(inventor.program(1 + random.nextInt(random.nextInt(5) == 0 ? 20 : 6)));
            type(text);
            int answer = 0;
            try {
                program = new Text(text).wholeProgram();
                Arrays.fill(values, 0);
            } catch (Fault fault) {
                answer = fault.place + 1;
            }
            due("program of " + text, desk.program(), answer);
            makeClaims();
        }

        private void makeClaims() {
            if (program != null) {
                claims = new ArrayList<>();
                claims.add(new Claim(0, 0, implies(pre, wp(program, 0, post))));
                claims(program, post, claims);
            }
        }

        private void askClaims() {
            due("conditions", desk.conditions(), claims.size());
            boolean all = true;
            for (int k = 0; k < claims.size(); k++) {
                all &= askClaim(k, claims.get(k), random.nextInt(3) == 0);
            }
            due("proved", desk.proved(), all);
            int k = random.nextInt(claims.size());
            out = claims.get(k).formula.text();
            due("say " + k, desk.say(k), out.length());
            for (int times = 0; times < 6; times++) {
                int i = random.nextInt(out.length());
                due("out " + i + " of " + out, desk.out(i), (int) out.charAt(i));
            }
            checkWhole(k);
        }

        private void checkWhole(int k) {
            if (calls + out.length() > MOST_CALLS) {
                return;
            }
            calls += out.length();
            StringBuilder got = new StringBuilder();
            for (int i = 0; i < out.length(); i++) {
                got.append((char) desk.out(i));
            }
            OracleTests.due(seed, "what came out of " + k, got.toString(), out);
        }

        private boolean askClaim(int k, Claim claim, boolean full) {
            Formula formula = claim.formula;
            int rows = formula.count(false);
            int first = -1;
            long[] numbers = null;
            if (rows <= 5000) {
                List<List<Atom>> all = formula.rows(false);
                OracleTests.due(seed, "size of rows", all.size(), rows);
                for (int i = 0; numbers == null && i < all.size(); i++) {
                    numbers = greatest(all.get(i));
                    first = numbers == null ? -1 : i;
                }
            }
            int valid = rows > 5000 ? -1 : numbers == null ? 1 : 0;
            due("valid " + k + " " + formula.text(), desk.valid(k), valid);
            if (full) {
                due("about kind " + k, desk.about(k, 0), claim.kind);
                due("about statement " + k, desk.about(k, 1), claim.statement);
                due("about rows " + k, desk.about(k, 2), rows);
                due("about atoms " + k, desk.about(k, 3), formula.atoms());
            }
            due("about first " + k, desk.about(k, 4), first);
            if (numbers != null) {
                checkCounter(k, formula, numbers);
            } else if (valid == 1) {
                checkValid(formula);
            }
            return valid == 1;
        }

        private void checkCounter(int k, Formula formula, long[] numbers) {
            long[] at = new long[10];
            for (int v = 0; v < 10; v++) {
                at[v] = numbers[v] - numbers[10];
            }
            OracleTests.due(seed, "formula at the counterexample " + formula.text(), formula.at(at), false);
            for (int v = 0; v < 10; v++) {
                due("counter " + k + " " + v + " of " + formula.text(), (long) desk.counter(k, v), at[v]);
            }
        }

        private void checkValid(Formula formula) {
            long[] at = new long[10];
            for (int times = 0; times < 20; times++) {
                for (int v = 0; v < 10; v++) {
                    at[v] = random.nextInt(9) - 4;
                }
                OracleTests.due(seed, "valid formula at " + Arrays.toString(at) + formula.text(), formula.at(at), true);
            }
        }

        private void tryRuns() {
            for (int times = 0; times < 3; times++) {
                int v = random.nextInt(6);
                int value = random.nextInt(10) == 0 ? random.nextInt() : random.nextInt(20) - 10;
                calls++;
                desk.start(v, value);
                values[v] = value;
                if (program != null) {
                    int steps = random.nextInt(random.nextInt(5) == 0 ? 2001 : 25);
                    due("run of " + steps, desk.run(steps), new Run(values, steps).of(program));
                }
                int u = random.nextInt(6);
                due("value " + u, desk.value(u), values[u]);
            }
            due("holds 0", desk.holds(0), pre.at(values));
            due("holds 1", desk.holds(1), post.at(values));
        }

        private void due(String what, Object got, Object want) {
            calls++;
            if (calls <= MOST_CALLS) {
                OracleTests.due(seed, what, got, want);
            }
        }
    }
}
