import java.util.ArrayList;
import java.util.List;

/**
 * The sentences of the document that name a boundary, each with a test of its own: the last case on each side of
 * it (the last that is allowed, the first that is not), and what the object answers afterwards.
 */
public final class BoundaryTests {
    private static final int MOST_CALLS = 512;
    private static final String STATE = "IllegalStateException";
    private static final String INDEX = "IndexOutOfBoundsException";
    private static final String ARGUMENT = "IllegalArgumentException";
    private static final int[] FAR =
        {Integer.MIN_VALUE, Integer.MIN_VALUE + 1, Integer.MAX_VALUE - 1, Integer.MAX_VALUE};

    private static int wrong = 0;
    private static String sentence = "";

    private interface Call {
        Object answer();
    }

    /** An object that is watched: the document says nothing of it after its 512th call. */
    private static final class Desk {
        private final TripleDesk desk = new TripleDesk();
        private int calls;

        private TripleDesk use() {
            calls++;
            due("calls on one object", calls <= MOST_CALLS, true);
            return desk;
        }

        boolean type(long w, int n) {
            return use().type(w, n);
        }

        int pre() {
            return use().pre();
        }

        int post() {
            return use().post();
        }

        int program() {
            return use().program();
        }

        int conditions() {
            return use().conditions();
        }

        int about(int k, int what) {
            return use().about(k, what);
        }

        int valid(int k) {
            return use().valid(k);
        }

        boolean proved() {
            return use().proved();
        }

        int counter(int k, int v) {
            return use().counter(k, v);
        }

        int say(int k) {
            return use().say(k);
        }

        int out(int i) {
            return use().out(i);
        }

        boolean start(int v, int value) {
            use().start(v, value);
            return true;
        }

        int run(int steps) {
            return use().run(steps);
        }

        long value(int v) {
            return use().value(v);
        }

        boolean holds(int what) {
            return use().holds(what);
        }

        boolean put(String text) {
            boolean all = true;
            for (int at = 0; at < text.length(); at += 8) {
                int n = Math.min(8, text.length() - at);
                long w = 0;
                for (int i = 0; i < n; i++) {
                    w |= (long) text.charAt(at + i) << (8 * i);
                }
                all &= type(w, n);
            }
            return all;
        }

        int pre(String text) {
            due("typing " + text, put(text), true);
            return pre();
        }

        int post(String text) {
            due("typing " + text, put(text), true);
            return post();
        }

        int program(String text) {
            due("typing " + text, put(text), true);
            return program();
        }

        String said(int k) {
            int size = say(k);
            return came(size);
        }

        String came(int size) {
            StringBuilder all = new StringBuilder();
            for (int i = 0; i < size; i++) {
                all.append((char) out(i));
            }
            due("out behind the last byte", outcome(() -> out(size)), INDEX);
            return all.toString();
        }

        String values() {
            StringBuilder all = new StringBuilder();
            for (int v = 0; v < 6; v++) {
                all.append(v == 0 ? "" : " ").append(value(v));
            }
            return all.toString();
        }

        String about(int k) {
            StringBuilder all = new StringBuilder();
            for (int what = 0; what < 5; what++) {
                all.append(what == 0 ? "" : " ").append(about(k, what));
            }
            return all.toString();
        }

        String counters(int k) {
            StringBuilder all = new StringBuilder();
            for (int v = 0; v < 10; v++) {
                all.append(v == 0 ? "" : " ").append(counter(k, v));
            }
            return all.toString();
        }

        /** All that can be asked without changing anything: only the tape is not in it. */
        String state() {
            StringBuilder all = new StringBuilder(values());
            all.append(" PRE ").append(holds(0)).append(" POST ").append(holds(1));
            Object many = outcome(() -> conditions());
            all.append(" conditions ").append(many);
            for (int k = 0; many instanceof Integer && k < (Integer) many; k++) {
                int which = k;
                all.append(" [").append(about(k)).append(" : ").append(valid(k));
                all.append(" : ").append(outcome(() -> counters(which))).append("]");
            }
            all.append(" out ");
            Object next = outcome(() -> out(0));
            for (int i = 1; next instanceof Integer; i++) {
                int at = i;
                all.append((char) (int) (Integer) next);
                next = outcome(() -> out(at));
            }
            return all.toString();
        }
    }

    private static void due(String what, Object got, Object want) {
        if (!got.equals(want)) {
            wrong++;
            System.out.println("\"" + sentence + "\": " + what + " answered " + got + ", due is " + want);
        }
    }

    private static void dueThrow(String what, String want, Call call) {
        due(what, outcome(call), want);
    }

    /** The answer, or the name of what was thrown. */
    private static Object outcome(Call call) {
        try {
            return call.answer();
        } catch (RuntimeException e) {
            return e.getClass().getSimpleName();
        }
    }

    private static String times(int n, String text) {
        return text.repeat(n);
    }

    private static Desk desk(String pre, String post, String program) {
        Desk desk = new Desk();
        due("pre of " + pre, desk.pre(pre), 0);
        due("post of " + post, desk.post(post), 0);
        due("program of " + program, desk.program(program), 0);
        return desk;
    }

    private static Desk desk(String program) {
        return desk("0=0", "0=0", program);
    }

    /** A desk of which much can be told: it has run, something came out, one condition fails, one is valid. */
    private static Desk busyDesk() {
        Desk desk = desk("a=1", "b=2", "b:=a+1;{b=2}");
        desk.start(0, 1);
        due("run", desk.run(2), 0);
        desk.say(0);
        desk.start(5, -7);
        return desk;
    }

    private static void duePre(String text, int answer) {
        due("pre of " + text, new Desk().pre(text), answer);
    }

    private static void dueProgram(String text, int answer) {
        due("program of " + text, new Desk().program(text), answer);
    }

    public static void main(String[] args) {
        objectIsUsedFor512Calls();
        tapeHas400Bytes();
        typeTakes1To8Bytes();
        takingEmptiesTheTape();
        bytesThatCanBeThere();
        wordsGoAsFarAsTheyGo();
        longestThatFits();
        numbersHaveThreeDigits();
        moreThanThreeDigitsAreAFaultAtTheirPlace();
        faultIsTheFirstTokenThatCantBeThere();
        faultIsTheSizeOfATextThatEndsTooEarly();
        faultChangesNothing();
        variablesAreAToFGhostsWToZ();
        ghostsStandInInvariantsAndCutsAlone();
        conditionHas8Atoms();
        conditionHas10WithinEachOther();
        programHas20Statements();
        programHas4Ifs();
        programHas4Whiles();
        behindAWholeProgramItsEnd();
        variantsHaveGhostsInTheirOrder();
        conditionsComeInTheirOrder();
        preAndPostAreSameAtFirst();
        termsArePutTogether();
        deepestFormulaIsSaid();
        rowsAre5000AtMost();
        rowsOfAtoms();
        counterexampleIsTheGreatest();
        runBeginsAtTheValuesThatThereAre();
        eachStatementAndEachLookIsAStep();
        runStopsBeforeAStepTooMany();
        runFailsAtAFalseAssert();
        runHas2000StepsAtMost();
        valuesAreAsGreatAsTheyMayBe();
        throwingChangesNothing();
        firstNamedExceptionComes();
        conditionsAndWhatsAreCounted();
        provedWhenAllAreValid();
        outHasTheBytesThatCameOutLast();
        startAndValueKnowSixVariables();
        holdsKnowsTwo();
        System.out.println(wrong == 0 ? "all boundaries hold" : wrong + " answers are not as due");
        if (wrong != 0) {
            System.exit(1);
        }
    }

    // ---- What it is

    private static void objectIsUsedFor512Calls() {
        sentence = "An object is used for at most 512 calls after it has been made";
        Desk desk = new Desk();
        due("program", desk.program("a:=a+1"), 0);
        while (desk.calls < MOST_CALLS - 1) {
            due("call " + (desk.calls + 1), desk.run(1), 0);
        }
        due("call 512", desk.value(0), (long) (MOST_CALLS - 3));

        Desk typed = new Desk();
        for (int i = 0; i < MOST_CALLS - 1; i++) {
            due("call " + (i + 1), typed.type(0x2020202020202020L, 8), i < 50);
        }
        due("call 512", typed.program(), 401);
    }

    // ---- The tape and its texts

    private static Desk filledTo(String text, int size) {
        Desk desk = new Desk();
        due("typing " + size, desk.put(text + times(size - text.length(), " ")), true);
        return desk;
    }

    private static void tapeHas400Bytes() {
        sentence = "False, changing nothing, when n is not 1 .. 8, or there would be more than 400";
        for (int n = 1; n <= 8; n++) {
            Desk fits = filledTo("a=1", 400 - n);
            due("the last " + n, fits.type(0x2020202020202020L, n), true);
            due("one more", fits.type('?', 1), false);
            due("pre of 400 bytes", fits.pre(), 0);
            due("PRE", fits.holds(0), false);

            Desk over = filledTo("a=1", 401 - n);
            due(n + " that would be 401", over.type(0x3f3f3f3f3f3f3f3fL, n), false);
            due("those that are left", n == 1 || over.type(0x2020202020202020L, n - 1), true);
            due("one more", over.type('?', 1), false);
            due("what was refused is not there", over.pre(), 0);
            due("PRE", over.holds(0), false);
            due("the tape is free again", over.put(times(400, " ")), true);
            due("and full again", over.type(' ', 1), false);
        }
        Desk last = filledTo("", 399);
        due("byte 400", last.type('?', 1), true);
        due("byte 400 is read", last.pre(), 400);
        duePre(times(400, "!"), 11);
        duePre(times(400, "("), 11);
        duePre(times(400, "="), 1);
        dueProgram("{" + times(399, "("), 12);
        dueProgram(times(400, ";"), 1);
        duePre("a=b" + times(397, ")"), 4);
        Desk whole = new Desk();
        due("a text of 400 bytes", whole.program(times(19, "skip;") + times(301, " ") + "a:=7"), 0);
        due("its last byte counts", whole.run(20), 0);
        due("its last byte counts", whole.value(0), 7L);
    }

    private static void typeTakes1To8Bytes() {
        sentence = "The n lowest bytes of w come behind the tape, the lowest first";
        String text = "b>=c+987";
        long word = 0;
        for (int i = 7; i >= 0; i--) {
            word = word << 8 | text.charAt(i);
        }
        for (int n = 1; n <= 8; n++) {
            Desk desk = new Desk();
            due("the lowest " + n, desk.type(word, n), true);
            due("the others", desk.put(text.substring(n)), true);
            due("pre", desk.pre(), 0);
            due("program", desk.program("skip"), 0);
            due("say", desk.said(0), "(!b>=c+987|0=0)");
        }
        int[] refused = {0, 9, -1, 10, -8, 256 + 1, Integer.MIN_VALUE, Integer.MIN_VALUE + 1, Integer.MAX_VALUE};
        Desk desk = new Desk();
        for (int n : refused) {
            due("type of " + n + " bytes", desk.type('?', n), false);
        }
        due("nothing was typed", desk.pre(), 1);
        due("typing", desk.put("a=1"), true);
        for (int n : refused) {
            due("type of " + n + " bytes", desk.type('?', n), false);
        }
        due("behind it", desk.put("23"), true);
        due("pre", desk.pre(), 0);
        desk.start(0, 123);
        due("PRE", desk.holds(0), true);
        due("the highest byte", desk.type(0x8020202020202020L, 8), true);
        due("the highest byte", desk.pre(), 8);
        due("PRE stays", desk.holds(0), true);
    }

    private static int take(Desk desk, int which) {
        return which == 0 ? desk.pre() : which == 1 ? desk.post() : desk.program();
    }

    private static void takingEmptiesTheTape() {
        sentence = "a call that takes it empties it";
        String[] good = {"a=b", "a=b", "a:=b"};
        for (int which = 0; which < 3; which++) {
            for (int next = 0; next < 3; next++) {
                Desk desk = new Desk();
                due("typing", desk.put(good[which]), true);
                due("good", take(desk, which), 0);
                due("empty behind a good text", take(desk, next), 1);
                due("typing", desk.put("a ?  "), true);
                due("faulty", take(desk, which), 3);
                due("empty behind a faulty text", take(desk, next), 1);
                due("typing", desk.put("a "), true);
                due("too short", take(desk, which), 3);
                due("empty behind a text that is too short", take(desk, next), 1);
                due("typing", desk.put(good[next]), true);
                due("only what was typed since", take(desk, next), 0);
            }
        }
        Desk desk = busyDesk();
        due("typing", desk.put("b"), true);
        dueThrow("run(-1)", ARGUMENT, () -> desk.run(-1));
        dueThrow("say(2)", INDEX, () -> desk.say(2));
        desk.proved();
        desk.say(1);
        desk.run(0);
        due("other calls leave the tape", desk.put("=9"), true);
        due("post", desk.post(), 0);
        due("say", desk.said(1), "(!b=2|b=9)");
    }

    private static boolean isOneOf(int c, String some) {
        return some.indexOf(c) >= 0;
    }

    private static boolean isLetter(int c) {
        return c >= 'a' && c <= 'z';
    }

    private static boolean isDigit(int c) {
        return c >= '0' && c <= '9';
    }

    private static void bytesThatCanBeThere() {
        sentence = "the first token that can't be there (any other byte is one of these)";
        for (int c = 0; c < 256; c++) {
            String one = String.valueOf((char) c);
            boolean begins = c >= 'a' && c <= 'f' || isDigit(c) || isOneOf(c, "-!( ");
            duePre(one, begins ? 2 : 1);
            dueProgram(one, c >= 'a' && c <= 'f' || isOneOf(c, "{ ") ? 2 : 1);
            duePre("a" + one + "b", isOneOf(c, "<=#>") ? 0 : isLetter(c) ? 1 : isOneOf(c, " +-") ? 3 : 2);
            duePre("a=b" + one, c == ' ' ? 0 : isLetter(c) ? 3 : isOneOf(c, "&|+-") ? 5 : 4);
            duePre("a=999" + one, c == ' ' ? 0 : isDigit(c) ? 3 : isOneOf(c, "&|") ? 7 : 6);
            dueProgram("a:=b" + one, c == ' ' ? 0 : isLetter(c) ? 4 : isOneOf(c, ";+-") ? 6 : 5);
            dueProgram("a:" + one + "1", c == '=' ? 0 : 2);
            duePre(one + "a=b", isOneOf(c, "!- (") ? c == '-' ? 2 : c == '(' ? 5 : 0
                : isDigit(c) ? 2 : 1);
        }
    }

    private static void wordsGoAsFarAsTheyGo() {
        sentence = "WORDS (letters a .. z as far as they go)";
        String[] words = {"skip", "if", "then", "else", "fi", "while", "inv", "var", "do", "od", "assert"};
        for (String word : words) {
            boolean begins = word.equals("if") || word.equals("while") || word.equals("assert");
            dueProgram(word, word.equals("skip") ? 0 : begins ? word.length() + 1 : 1);
            dueProgram(word + "z", 1);
            dueProgram("z" + word, 1);
            dueProgram("z" + word.substring(1), 1);
            dueProgram(word.substring(0, word.length() - 1) + "A", word.length() == 2 && word.charAt(0) <= 'f' ? 2 : 1);
            duePre(word, 1);
            duePre("a=" + word, 3);
        }
        dueProgram("while a<b inv a=b do skip od", 0);
        dueProgram("whilea<b inv a=b do skip od", 1);
        dueProgram("while a<binv a=b do skip od", 9);
        dueProgram("while a<b inva=b do skip od", 11);
        dueProgram("while a<9inv a=9do skip od", 0);
        dueProgram("if(a=b)then skip else{a=b}fi", 0);
        dueProgram("assert!a=b", 0);
        dueProgram("asserta=b", 1);
        dueProgram("sk ip", 1);
        dueProgram("skip;skip", 0);
        dueProgram("  skip  ;  skip  ", 0);
        duePre("aa=b", 1);
        duePre("a=ff", 3);
    }

    private static void longestThatFits() {
        sentence = ":= <= >= < > = # & | ! ( ) { } ; + - (the longest that fits)";
        duePre("a<=b", 0);
        duePre("a< =b", 4);
        duePre("a>=b", 0);
        duePre("a> =b", 4);
        duePre("a<==b", 4);
        duePre("a>==b", 4);
        duePre("a=<b", 3);
        duePre("a=>b", 3);
        duePre("a<>b", 3);
        duePre("a<<=b", 3);
        duePre("a<=-1", 0);
        duePre("a<-1", 0);
        duePre("a#-1", 0);
        duePre("!!a=b", 0);
        duePre("a=b&&a=b", 5);
        duePre("a=b||a=b", 5);
        duePre("a:=b", 2);
        duePre("a:", 2);
        dueProgram("a:=b", 0);
        dueProgram("a: =b", 2);
        dueProgram("a:==b", 4);
        dueProgram("a::=b", 2);
        dueProgram("a:", 2);
        Desk desk = desk("a<=b", "a>=b", "skip");
        due("<= and >= are one token", desk.said(0), "(!a<=b|a>=b)");
        due("a< =b", desk.pre("a< =b"), 4);
        due("PRE stays", desk.said(0), "(!a<=b|a>=b)");
    }

    private static void numbersHaveThreeDigits() {
        sentence = "NUMBERS (digits as far as they go, three at most)";
        Desk desk = desk("a=999", "b+999<=c-999", "a:=999;b:=a-999");
        due("say", desk.said(0), "(!a=999|999<=c-999)");
        desk.start(0, 999);
        due("999", desk.holds(0), true);
        desk.start(0, 998);
        due("998", desk.holds(0), false);
        due("1000", desk.pre("a=1000"), 3);
        due("PRE stays", desk.said(0), "(!a=999|999<=c-999)");
        due("run", desk.run(2), 0);
        due("values", desk.values(), "999 0 0 0 0 0");
        duePre("a=0", 0);
        duePre("a=00", 0);
        duePre("a=000", 0);
        duePre("a=0000", 3);
        duePre("a=b+999", 0);
        duePre("a=b+1000", 5);
        duePre("a=b-999", 0);
        duePre("a=b-1000", 5);
        duePre("-999=a", 0);
        duePre("-1000=a", 2);
        duePre("999=a", 0);
        duePre("1000=a", 1);
        dueProgram("a:=999", 0);
        dueProgram("a:=1000", 4);
        dueProgram("a:=-999", 0);
        dueProgram("a:=-1000", 5);
        dueProgram("a:=a+999", 0);
        dueProgram("a:=a+1000", 6);
        dueProgram("while a<b inv a=b var 999 do skip od", 0);
        dueProgram("while a<b inv a=b var 1000 do skip od", 23);
        duePre("a=100 0", 7);
        duePre("a=1 000", 5);
    }

    private static void moreThanThreeDigitsAreAFaultAtTheirPlace() {
        sentence = "Its FAULT is the place of the first token that can't be there (.. and more than three digits are)";
        for (int digits = 1; digits <= 397; digits += digits < 12 ? 1 : 55) {
            duePre("a=" + times(digits, "9"), digits <= 3 ? 0 : 3);
            duePre("a=" + times(digits, "0"), digits <= 3 ? 0 : 3);
            dueProgram("a:=" + times(digits, "1"), digits <= 3 ? 0 : 4);
            duePre("a   =   " + times(Math.min(digits, 390), "7"), digits <= 3 ? 0 : 9);
        }
        duePre("a=12345 ?", 3);
        duePre("a=1234x", 3);
        duePre("a=1234 5678", 3);
        duePre("a ? 1234", 3);
        duePre("a 1234", 3);
        duePre("a=b 1234", 5);
        duePre("a=999&b=1000", 9);
        duePre("1000", 1);
        dueProgram("1000", 1);
        dueProgram("skip 1000", 6);
        Desk desk = desk("a=1", "0=0", "skip");
        due("1000", desk.pre("a=1000"), 3);
        due("1000", desk.post("1000=a"), 1);
        due("1000", desk.program("a:=1000"), 4);
        due("nothing is changed", desk.said(0), "(!a=1|0=0)");
    }

    private static final String[] TOKENS = {
        "if", "(", "a", "<", "b", ")", "then", "a", ":=", "b", "+", "1", "else", "skip", "fi",
        ";", "while", "!", "a", ">=", "9", "inv", "a", "<=", "9", "&", "w", "#", "-", "3", "var", "b", "-", "1", "do",
        "{", "a", "=", "x", "}", ";", "a", ":=", "-", "4", "od",
        ";", "assert", "a", "=", "b", "|", "c", ">", "d"};

    private static final int FI = 14;
    private static final int OD = 45;
    private static final int FIRST_ATOM_OF_ASSERT = 50;

    private static boolean wholeBehind(int token) {
        return token == FI || token == OD || token == FIRST_ATOM_OF_ASSERT || token == TOKENS.length - 1;
    }

    /** The first n tokens, with a gap behind each. */
    private static String firstTokens(int n, String gap) {
        StringBuilder all = new StringBuilder();
        for (int i = 0; i < n; i++) {
            all.append(TOKENS[i]).append(gap);
        }
        return all.toString();
    }

    private static void faultIsTheFirstTokenThatCantBeThere() {
        sentence = "Its FAULT is the place of the first token that can't be there";
        for (int i = 0; i < TOKENS.length; i++) {
            for (String gap : new String[] {" ", "   "}) {
                String text = firstTokens(i, gap);
                for (String bad : new String[] {"?", "1000", "A", "g", "zz", ":", "\n", "\0", "\u00ff"}) {
                    dueProgram(text + bad, text.length() + 1);
                    dueProgram(text + bad + " " + TOKENS[i] + " ?", text.length() + 1);
                }
            }
        }
        duePre("? a b", 1);
        duePre(" ?", 2);
        duePre("a b ?", 3);
        duePre("a=b ) ?", 5);
        duePre(times(399, " ") + "?", 400);
        duePre("a=" + times(397, " ") + "?", 400);
        duePre("a=" + times(397, " ") + "b", 0);
    }

    private static void faultIsTheSizeOfATextThatEndsTooEarly() {
        sentence = "or its size, when it ends too early";
        for (int n = 0; n <= TOKENS.length; n++) {
            boolean whole = n > 0 && wholeBehind(n - 1);
            for (String gap : new String[] {" ", "   "}) {
                String text = firstTokens(n, gap);
                dueProgram(text, whole ? 0 : text.length() + 1);
                dueProgram(text.stripTrailing(), whole ? 0 : text.stripTrailing().length() + 1);
            }
            String text = firstTokens(n, " ");
            dueProgram(text + times(400 - text.length(), " "), whole ? 0 : 401);
        }
        duePre("", 1);
        duePre(" ", 2);
        duePre(times(400, " "), 401);
        duePre("a=b&" + times(396, " "), 401);
        duePre("a=b&" + times(395, " "), 400);
        dueProgram("", 1);
        dueProgram(times(400, " "), 401);
        Desk desk = busyDesk();
        String before = desk.state();
        due("pre of nothing", desk.pre(), 1);
        due("post of nothing", desk.post(), 1);
        due("program of nothing", desk.program(), 1);
        due("nothing is changed", desk.state(), before);
    }

    private static void faultChangesNothing() {
        sentence = "0, or its FAULT and 1 (then nothing is changed)";
        Desk desk = busyDesk();
        String before = desk.state();
        due("fault at 0", desk.pre("?=1"), 1);
        due("fault at the end", desk.pre("c=3;"), 4);
        due("fault at the size", desk.pre("c=3&"), 5);
        due("fault at 0", desk.post("?=1"), 1);
        due("fault at the end", desk.post("c=3;"), 4);
        due("fault at the size", desk.post("c=3&"), 5);
        due("fault at 0", desk.program("?"), 1);
        due("fault at the end", desk.program("{c=3};c:=1 fi"), 12);
        due("fault at the size", desk.program("{c=3};c:=1;"), 12);
        due("nothing is changed", desk.state(), before);
        due("say", desk.said(0), "(!a=1|a+1=2)");
        due("say", desk.said(1), "(!b=2|b=2)");
        due("run", desk.run(1), 1);
        due("the old program runs", desk.values(), "1 2 0 0 0 -7");

        Desk fresh = new Desk();
        due("a program with a fault", fresh.program("skip;"), 6);
        dueThrow("is none", STATE, () -> fresh.conditions());
        due("PRE with a fault", fresh.pre("0=1&"), 5);
        due("is not PRE", fresh.holds(0), true);
        due("a program without", fresh.program("skip"), 0);
        due("say", fresh.said(0), "(!0=0|0=0)");
    }

    // ---- Conditions and programs

    private static void variablesAreAToFGhostsWToZ() {
        sentence = "VARIABLES are a .. f (numbers 0 .. 5); GHOSTS are w, x, y, z (6 .. 9)";
        for (char c = 'a'; c <= 'z'; c++) {
            boolean variable = c <= 'f';
            boolean ghost = c >= 'w';
            duePre(c + "=1", variable ? 0 : 1);
            duePre("1=" + c, variable ? 0 : 3);
            dueProgram(c + ":=1", variable ? 0 : 1);
            dueProgram("{" + c + "=1}", variable || ghost ? 0 : 2);
            dueProgram("{1=" + c + "-1}", variable || ghost ? 0 : 4);
        }
        String letters = "abcdefwxyz";
        for (int v = 0; v < 10; v++) {
            Desk desk = desk("0=0", "0=1", "{" + letters.charAt(v) + "=-5}");
            for (int other = 0; other < 10; other++) {
                due("number of " + letters.charAt(v), desk.counter(1, other), other == v ? -5 : 0);
            }
        }
        for (int v = 0; v < 6; v++) {
            Desk desk = desk(letters.charAt(v) + ":=7");
            due("run", desk.run(1), 0);
            for (int other = 0; other < 6; other++) {
                due("value of " + letters.charAt(v), desk.value(other), other == v ? 7L : 0L);
            }
        }
    }

    private static void ghostsStandInInvariantsAndCutsAlone() {
        sentence = "Ghosts may stand in invariants and cuts alone";
        for (String g : new String[] {"w", "x", "y", "z"}) {
            duePre(g + "=a", 1);
            duePre("a=" + g, 3);
            due("post of " + g, new Desk().post("a=" + g + "+1"), 3);
            dueProgram(g + ":=1", 1);
            dueProgram("a:=" + g, 4);
            dueProgram("a:=" + g + "+1", 4);
            dueProgram("assert a=" + g, 10);
            dueProgram("if a=" + g + " then skip else skip fi", 6);
            dueProgram("while a<" + g + " inv a=a do skip od", 9);
            dueProgram("while a<b inv a=a var " + g + " do skip od", 23);
            dueProgram("while a<b inv " + g + "=" + g + "-1 var a do skip od", 0);
            dueProgram("{" + g + "+2=" + g + "}", 0);
            dueProgram("{" + g + "=a};assert " + g + "=a", 14);
            dueProgram("while a<b inv " + g + "=a do assert " + g + "=a od", 29);
        }
        Desk desk = busyDesk();
        String before = desk.state();
        due("a ghost in PRE", desk.pre("a=1&w=1"), 5);
        due("a ghost in POST", desk.post("a=1&z=1"), 5);
        due("nothing is changed", desk.state(), before);
    }

    private static String joined(int n, String part, String between) {
        return times(n - 1, part + between) + part;
    }

    /** A text with the condition in a place of each kind; the condition begins behind that many bytes. */
    private static final String[][] HOMES = {
        {"assert ", ""}, {"if ", " then skip else skip fi"}, {"while ", " inv a=b do skip od"},
        {"while a=b inv ", " do skip od"}, {"while a=b inv ", " var a do skip od"}, {"{", "}"},
        {"if a=b then skip else {", "} fi"}, {"while a=b inv a=b do assert ", " od"}};

    /** The condition is read alike as PRE, as POST, and wherever one can stand in a program. */
    private static void dueEverywhere(String condition, int answer) {
        Desk desk = desk("a=7", "a=8", "a:=9");
        due("pre of " + condition, desk.pre(condition), answer);
        due("PRE", desk.said(0).startsWith("(!a=7|"), answer != 0);
        due("post of " + condition, desk.post(condition), answer);
        due("POST", desk.said(0).endsWith("|9=8)"), answer != 0);
        for (String[] home : HOMES) {
            Desk other = desk("a:=9");
            String text = home[0] + condition + home[1];
            due("program of " + text, other.program(text), answer == 0 ? 0 : answer + home[0].length());
            due("program", other.said(0).equals("(!0=0|0=0)"), answer != 0);
        }
    }

    private static void conditionHas8Atoms() {
        sentence = "at most 8 atoms (the first token of the ninth atom can't be there)";
        dueEverywhere(joined(8, "a=b", "&"), 0);
        dueEverywhere(joined(9, "a=b", "&"), 33);
        dueEverywhere(joined(8, "1<2", "|"), 0);
        dueEverywhere(joined(9, "1<2", "|"), 33);
        dueEverywhere(joined(8, "a=1", "&") + "|-5<a", 33);
        dueEverywhere(joined(8, "a=1", "&") + "| !  (  a<a)", 40);
        dueEverywhere("(" + joined(4, "a=1", "|") + ")&!(" + joined(4, "a=2", "|") + ")", 0);
        dueEverywhere("(" + joined(4, "a=1", "|") + ")&!(" + joined(5, "a=2", "|") + ")", 37);
        dueEverywhere(joined(8, "a=b", "&") + "&)", 33);
        duePre(joined(8, "a=b", "&") + "&", 33);
        dueProgram(joined(7, "assert " + joined(8, "a=b", "&"), ";"), 0);
        dueProgram("while " + joined(8, "a=b", "&") + " inv " + joined(8, "w=b", "&") + " do {"
            + joined(8, "a=x", "|") + "};if " + joined(8, "a=b", "&") + " then skip else skip fi od", 0);
        dueProgram("while " + joined(8, "a=b", "&") + " inv " + joined(9, "w=b", "&") + " do skip od", 75);
        Desk desk = desk(joined(8, "a=b", "&"), joined(8, "a=b", "|"), "skip");
        due("atoms", desk.about(0, 3), 16);
        due("a ninth", desk.pre(joined(9, "a=b", "&")), 33);
        due("a ninth", desk.post(joined(9, "a=b", "|")), 33);
        due("atoms", desk.about(0, 3), 16);
        due("eight again", desk.pre(joined(8, "a=c", "|")), 0);
        due("atoms", desk.about(0, 3), 16);
    }

    private static void conditionHas10WithinEachOther() {
        sentence = "at most 10 ! and ( within each other (the eleventh of these can't be there)";
        String closes = times(10, ")");
        dueEverywhere(times(10, "!") + "a=b", 0);
        dueEverywhere(times(11, "!") + "a=b", 11);
        dueEverywhere(times(10, "(") + "a=b" + closes, 0);
        dueEverywhere(times(11, "(") + "a=b)" + closes, 11);
        dueEverywhere(times(5, "!(") + "a=b" + times(5, ")"), 0);
        dueEverywhere(times(5, "!(") + "!a=b" + times(5, ")"), 11);
        dueEverywhere(times(5, "!(") + "(a=b)" + times(5, ")"), 11);
        dueEverywhere(times(5, "(!") + "a=b" + times(5, ")"), 0);
        dueEverywhere(times(5, "(!") + " (a=b)" + times(5, ")"), 12);
        dueEverywhere("a=b|" + times(10, "(") + "a=b|a=b" + closes + "&" + times(10, "!") + "a=b", 0);
        dueEverywhere("a=b|" + times(10, "(") + "a=b|!a=b" + closes, 19);
        dueEverywhere("(" + times(9, "!") + "a=b&" + times(9, "!") + "a=b)", 0);
        dueEverywhere("(" + times(9, "!") + "a=b&" + times(10, "!") + "a=b)", 24);
        dueEverywhere(joined(8, "(!(a=b))", "&"), 0);
        Desk desk = desk(times(10, "!") + "a=b", "a#b", "skip");
        due("say", desk.said(0), "(!" + times(10, "!") + "a=b|a#b)");
        due("an eleventh", desk.pre(times(11, "!") + "a=b"), 11);
        due("say", desk.said(0), "(!" + times(10, "!") + "a=b|a#b)");
        due("valid", desk.valid(0), 0);
        due("counter", desk.counters(0), "0 0 0 0 0 0 0 0 0 0");
    }

    private static void dueRefused(Desk desk, String program, int answer) {
        int conditions = desk.conditions();
        desk.start(4, 44);
        due("program of " + program, desk.program(program), answer);
        due("conditions afterwards", desk.conditions(), conditions);
        due("values afterwards", desk.value(4), 44L);
    }

    private static void programHas20Statements() {
        sentence = "STATEMENTS with ; between (20 at most in all, those within others, too)";
        String[] kinds = {"skip", "a:=1", "assert 0=0", "{0=0}"};
        for (String kind : kinds) {
            Desk desk = desk(joined(20, kind, ";"));
            due("20 steps", desk.run(19), 1);
            due("20 steps", desk.run(20), 0);
            dueRefused(desk, joined(21, kind, ";"), 20 * (kind.length() + 1) + 1);
            due("it runs as before", desk.run(20), 0);
        }
        String branch = "if a=b then skip else skip fi";
        String loop = "while a<b inv a=b do skip od";
        dueProgram(times(17, "skip;") + branch, 0);
        dueProgram(times(18, "skip;") + branch, 90 + 23);
        dueProgram(times(19, "skip;") + branch, 95 + 13);
        dueProgram(times(20, "skip;") + branch, 100 + 1);
        dueProgram(times(18, "skip;") + loop, 0);
        dueProgram(times(19, "skip;") + loop, 95 + 22);
        dueProgram(times(20, "skip;") + loop, 100 + 1);
        dueProgram("if a=b then " + joined(18, "skip", ";") + " else skip fi", 0);
        dueProgram("if a=b then " + joined(18, "skip", ";") + " else skip;a:=1 fi", 12 + 89 + 6 + 5 + 1);
        dueProgram("if a=b then " + joined(18, "skip", ";") + " else skip fi;{a=b}", 12 + 89 + 6 + 8 + 1);
        dueProgram("while a<b inv a=b do " + joined(19, "skip", ";") + " od", 0);
        dueProgram("while a<b inv a=b do " + joined(20, "skip", ";") + " od", 21 + 95 + 1);
        dueProgram("while a<b inv a=b do " + joined(19, "skip", ";") + " od ; skip", 21 + 94 + 6 + 1);
        dueProgram(times(20, "skip;"), 101);
        dueProgram(times(20, "skip;") + "  ", 103);
        dueProgram(times(20, "skip;") + ";", 101);
        Desk last = desk(times(19, "skip;") + "{a=9}");
        due("the last statement's number", last.about(1, 1), 20);
    }

    private static void programHas4Ifs() {
        sentence = "(20 at most ..; 4 of them if ..)";
        String one = "if a=b then skip else skip fi;";
        Desk desk = desk(times(4, one) + "a:=1");
        dueRefused(desk, times(4, one) + "a:=1;" + one + "skip", 126);
        dueRefused(desk, times(5, one) + "skip", 121);
        due("it runs as before", desk.run(9), 0);
        due("it runs as before", desk.value(0), 1L);
        String then = "if a=b then ";
        String rest = " else skip fi";
        dueProgram(times(4, then) + "skip" + times(4, rest), 0);
        dueProgram(times(5, then) + "skip" + times(5, rest), 49);
        String orElse = "if a=b then skip else ";
        dueProgram(times(4, orElse) + "skip" + times(4, " fi"), 0);
        dueProgram(times(5, orElse) + "skip" + times(5, " fi"), 89);
        dueProgram("while a<b inv a=b do " + times(4, one) + "skip od", 0);
        dueProgram("while a<b inv a=b do " + times(3, one) + "skip od;" + one + one + "skip", 21 + 90 + 8 + 30 + 1);
    }

    private static void programHas4Whiles() {
        sentence = "(20 at most ..; .. 4 while)";
        String one = "while a<b inv a=b do skip od;";
        Desk desk = desk(times(4, one) + "a:=1");
        due("conditions", desk.conditions(), 9);
        dueRefused(desk, times(4, one) + "a:=1;" + one + "skip", 122);
        dueRefused(desk, times(5, one) + "skip", 117);
        due("it runs as before", desk.run(9), 0);
        due("it runs as before", desk.value(0), 1L);
        String loop = "while a<b inv a=b do ";
        dueProgram(times(4, loop) + "skip" + times(4, " od"), 0);
        dueProgram(times(5, loop) + "skip" + times(5, " od"), 85);
        dueProgram("if a=b then " + one + one + "skip else " + one + one + "skip fi", 0);
        dueProgram("if a=b then " + one + one + "skip else " + one + one + "skip fi; " + one + "skip",
            12 + 58 + 10 + 58 + 9 + 1);
        dueProgram(times(4, loop) + times(4, "if a=b then ") + "skip" + times(4, " else skip fi") + times(4, " od"), 0);
        String variants = times(4, "while a<b inv a=b var a do ") + joined(16, "{a=b}", ";") + times(4, " od");
        Desk most = desk(variants);
        due("as many conditions as there can be", most.conditions(), 29);
        due("the last one's kind", most.about(28, 0), 4);
        due("the last one's statement", most.about(28, 1), 20);
        dueThrow("one more", INDEX, () -> most.about(29, 0));
        due("the last one", most.valid(28), 0);
        due("the last one", most.counters(28), "0 0 0 0 0 0 0 0 0 0");
        due("proved", most.proved(), false);
        due("a fifth", most.program(times(5, loop) + "skip" + times(5, " od")), 85);
        for (int i = 0; i < 3; i++) {
            due("the same again", most.program(variants), 0);
            due("conditions", most.conditions(), 29);
            due("a smaller one", most.program("while a<b inv a=b var c do skip od"), 0);
            due("conditions", most.conditions(), 4);
            due("the limits begin anew", most.said(1), "(!((a=b&a<b)&c=w)|(a=b&c<w))");
        }
    }

    private static final String[] ALL_TOKENS = {
        "a", "f", "w", "z", "5", ":=", "<=", ">=", "<", ">", "=", "#", "&", "|", "!", "(", ")", "{", "}", ";", "+", "-",
        "skip", "if", "then", "else", "fi", "while", "inv", "var", "do", "od", "assert"};

    private static final String STATEMENT = "a f skip if while assert {";
    private static final String PART = "a f 5 - ! (";
    private static final String GHOST_PART = "a f w z 5 - ! (";
    private static final String TERM = "a f 5 -";
    private static final String GHOST_TERM = "a f w z 5 -";
    private static final String BEHIND_NAME = "+ - < <= = # >= >";

    /** In the place of each of TOKENS, and behind them all: the tokens that may stand there. */
    private static final String[] MAY_FOLLOW = {
        STATEMENT, PART, PART, BEHIND_NAME, TERM, "+ - & | )", "& | then", STATEMENT, ":=", TERM, "+ - ; else", "5",
        "; else", STATEMENT, "; fi",
        ";", STATEMENT, PART, PART, BEHIND_NAME, TERM, "& | inv", GHOST_PART, BEHIND_NAME, GHOST_TERM, "& | var do",
        GHOST_PART, BEHIND_NAME, GHOST_TERM, "5", "& | var do", TERM, "+ - do", "5", "do",
        STATEMENT, GHOST_PART, BEHIND_NAME, GHOST_TERM, "+ - & | }", "; od", STATEMENT, ":=", TERM, "5", "; od",
        ";", STATEMENT, PART, BEHIND_NAME, TERM, "+ - & | ;", PART, BEHIND_NAME, TERM, "+ - & | ;"};

    /** Whether a token that may stand in that place makes the program whole. */
    private static boolean endsWhole(int place, String token) {
        boolean outside = place == 0 || place == FI + 2 || place == OD + 2;
        boolean inLastAtoms = place == FIRST_ATOM_OF_ASSERT || place == TOKENS.length - 1;
        return outside && token.equals("skip") || inLastAtoms && !token.equals("-")
            || token.equals("fi") || token.equals("od");
    }

    private static void behindAWholeProgramItsEnd() {
        sentence = "What follows must be a token that may follow: behind a whole program its end";
        String[] behind = {"skip", "a", "then", "else", "fi", "do", "od", "inv", "var", "}", ")", "=", "&", "5", "!"};
        for (String more : behind) {
            dueProgram("a:=b " + more, 6);
            dueProgram("skip " + more, 6);
            dueProgram("{a=b} " + more, 7);
            dueProgram("if a=b then skip else skip fi " + more, 31);
            dueProgram("while a=b inv a=b do skip od " + more, 30);
        }
        for (String more : new String[] {"skip", "a", "then", "fi", "}", ")", ";", ":=", "!", "(", "5"}) {
            duePre("a=b " + more, 5);
            duePre("a=5 " + more, 5);
            duePre("(a=5) " + more, 7);
        }
        for (int i = 0; i <= TOKENS.length; i++) {
            String text = firstTokens(i, " ");
            for (String token : ALL_TOKENS) {
                boolean may = (" " + MAY_FOLLOW[i] + " ").contains(" " + token + " ");
                int size = text.length() + token.length();
                dueProgram(text + token, may ? endsWhole(i, token) ? 0 : size + 1 : text.length() + 1);
            }
        }
        dueProgram("if a=b then skip else skip fi", 0);
        dueProgram("if a=b then skip fi", 18);
        dueProgram("if a=b then skip od", 18);
        dueProgram("if a=b then skip else skip else skip fi", 28);
        dueProgram("while a=b inv a=b do skip fi", 27);
        dueProgram("while a=b inv a=b var a var a do skip od", 25);
        dueProgram("while a=b inv a=b inv a=b do skip od", 19);
    }

    private static void variantsHaveGhostsInTheirOrder() {
        sentence = "The first while with a variant has the ghost w, the next one x, and so on";
        Desk row = desk(joined(4, "while a<b inv a=b var c do skip od", ";"));
        for (int i = 0; i < 4; i++) {
            char ghost = "wxyz".charAt(i);
            due("while " + i, row.said(1 + 3 * i), "(!((a=b&a<b)&c=" + ghost + ")|(a=b&c<" + ghost + "))");
        }
        Desk nest = desk(times(4, "while a<b inv a=b var c do ") + "skip" + times(4, " od"));
        due("the outermost", nest.said(1), "(!((a=b&a<b)&c=w)|a=b)");
        due("the innermost", nest.said(10), "(!((a=b&a<b)&c=z)|(a=b&c<z))");
        due("behind the innermost", nest.said(11), "(!(a=b&!a<b)|(a=b&c<y))");
        Desk some = desk("while a<b inv a=b do skip od;while a<b inv a=b var c do while a<b inv a=b do skip od od;"
            + "while a<b inv a=b var 5 do skip od");
        due("without one", some.said(1), "(!(a=b&a<b)|a=b)");
        due("the first with one", some.said(3), "(!((a=b&a<b)&c=w)|a=b)");
        due("without one, within", some.said(6), "(!(a=b&a<b)|a=b)");
        due("the next with one", some.said(8), "(!((a=b&a<b)&5=x)|(a=b&5<x))");
        due("a new program begins anew", some.program("while a<b inv a=b var d do skip od"), 0);
        due("the first with one", some.said(1), "(!((a=b&a<b)&d=w)|(a=b&d<w))");
    }

    private static void conditionsComeInTheirOrder() {
        sentence = "Then those of its whiles and cuts, in the order in which they begin";
        Desk desk = desk("a=0", "a=9",
            "{a=1};if a<b then {a=2};a:=a+1 else while a<c inv a=3 var c do {a=4};a:=a+2 od fi;{a=5};skip");
        String[] due = {"0 0", "4 1", "4 3", "1 5", "2 5", "3 5", "4 6", "4 8"};
        due("conditions", desk.conditions(), due.length);
        for (int k = 0; k < due.length; k++) {
            due("condition " + k, desk.about(k, 0) + " " + desk.about(k, 1), due[k]);
        }
        due("of the program", desk.said(0), "(!a=0|a=1)");
        due("before the if", desk.said(1), "(!a=1|((a<b&a=2)|(!a<b&a=3)))");
        due("within the if, behind it", desk.said(2), "(!a=2|a+1=5)");
        due("of the body", desk.said(3), "(!((a=3&a<c)&c=w)|a=4)");
        due("behind the while, behind the if", desk.said(4), "(!(a=3&!a<c)|a=5)");
        due("of the variant", desk.said(5), "(!(a=3&a<c)|c>=0)");
        due("the last one within the while", desk.said(6), "(!a=4|(a+2=3&c<w))");
        due("the last one", desk.said(7), "(!a=5|a=9)");
        dueThrow("one more", INDEX, () -> desk.said(8));
        due("one alone", desk("skip").conditions(), 1);
    }

    private static void preAndPostAreSameAtFirst() {
        sentence = "PRE and POST are 0 = 0 at first";
        Desk desk = new Desk();
        due("PRE", desk.holds(0), true);
        due("POST", desk.holds(1), true);
        due("program", desk.program("skip"), 0);
        due("say", desk.said(0), "(!0=0|0=0)");
        due("about", desk.about(0), "0 0 2 2 -1");
        due("proved", desk.proved(), true);
        due("pre", desk.pre("a=1"), 0);
        due("POST is as at first", desk.said(0), "(!a=1|0=0)");
        Desk other = new Desk();
        due("post", other.post("a=1"), 0);
        due("program", other.program("skip"), 0);
        due("PRE is as at first", other.said(0), "(!0=0|a=1)");
    }

    private static void termsArePutTogether() {
        sentence = "a term v + n becomes t and n put together (a number 0 behind a variable is not said)";
        String[][] rows = {
            {"a+1<0", "a:=b-1", "b<0"}, {"a+1<0", "a:=b-2", "b-1<0"}, {"a+1<0", "a:=b+0", "b+1<0"},
            {"a-1<0", "a:=b+1", "b<0"}, {"a-1<0", "a:=b+2", "b+1<0"}, {"a<0", "a:=b-0", "b<0"},
            {"a+1<0", "a:=-1", "0<0"}, {"a+1<0", "a:=-2", "-1<0"}, {"a+1<0", "a:=0", "1<0"},
            {"a-1<0", "a:=1", "0<0"}, {"a-0<-0", "a:=-0", "0<0"}, {"a+0<00", "skip", "a<0"},
            {"a+999<0", "a:=b+999", "b+1998<0"}, {"a-999<0", "a:=b-999", "b-1998<0"},
            {"a+999<0", "a:=999", "1998<0"}, {"a-999<0", "a:=-999", "-1998<0"},
            {"a+999<0", joined(20, "a:=a+999", ";"), "a+20979<0"},
            {"a-999<0", joined(20, "a:=a-999", ";"), "a-20979<0"},
            {"a-999<0", "a:=-999;" + joined(19, "a:=a-999", ";"), "-20979<0"},
            {"a<0", "if a=b then a:=1 else skip fi", "((a=b&1<0)|(!a=b&a<0))"},
            {"a+10<0", "a:=b-100", "b-90<0"}, {"a+100<0", "a:=b", "b+100<0"}};
        for (String[] row : rows) {
            due(row[1], desk("0=0", row[0], row[1]).said(0), "(!0=0|" + row[2] + ")");
        }
    }

    private static void deepestFormulaIsSaid() {
        sentence = "The formula of condition k comes out, without blanks: .. how many bytes";
        String post = times(10, "!") + "(" + joined(8, "a<b", "&") + ")";
        due("an eleventh", new Desk().post(post), 11);
        post = times(9, "!") + "(" + joined(8, "a<b", "&") + ")";
        String inner = times(9, "!") + times(7, "(") + "a<b" + times(7, "&a<b)");
        Desk desk = desk("0=0", post,
            times(4, "if c<d then ") + joined(12, "assert e<f", ";") + times(4, " else skip fi"));
        String want = times(12, "(e<f&") + inner + times(12, ")");
        for (int i = 0; i < 4; i++) {
            want = "((c<d&" + want + ")|(!c<d&" + inner + "))";
        }
        want = "(!0=0|" + want + ")";
        int size = desk.say(0);
        due("how many bytes", size, want.length());
        for (int i = 0; i < 400; i++) {
            int at = i < 250 ? i : size - 400 + i;
            due("byte " + at, (char) desk.out(at), want.charAt(at));
        }
        dueThrow("behind it", INDEX, () -> desk.out(size));
        // The asserts and what is behind them have 13 rows to be false; an if makes 2 * (1 + n) of n.
        due("rows", desk.about(0, 2), 238);
        due("valid", desk.valid(0), 0);
        due("PRE", desk.pre("0<0"), 0);
        due("rows", desk.about(0, 2), 238);
        due("valid", desk.valid(0), 1);
    }

    // ---- Rows and counterexamples

    /** Each assert of n atoms has 2 to the n rows to be false; those of asserts in a row are added. */
    private static String asserts(String atom, int... atoms) {
        StringBuilder all = new StringBuilder();
        for (int n : atoms) {
            all.append("assert ").append(joined(n, atom, "|")).append(";");
        }
        return all.append("skip").toString();
    }

    private static void rowsAre5000AtMost() {
        sentence = "With more than 5000 rows it is UNKNOWN whether it is valid";
        Desk most = desk("a#b&a#c&a#d", "0<1", asserts("0=0", 8, 8, 6, 5, 4));
        due("5000 rows", most.about(0), "0 0 5000 35 -1");
        due("5000 rows", most.valid(0), 1);
        due("5000 rows", most.proved(), true);
        due("a post that the last row alone denies", most.post("a<=b|a<=c|a<=d"), 0);
        due("5000 rows", most.about(0), "0 0 5000 37 4999");
        due("5000 rows", most.valid(0), 0);
        due("5000 rows", most.proved(), false);
        due("5000 rows", most.counters(0), "0 -1 -1 -1 0 0 0 0 0 0");

        Desk over = desk("a=a|a=a|a=a", "0=0&0<1", asserts("0=0", 8, 8, 8, 8, 8, 8, 7));
        due("5001 rows", over.about(0), "0 0 5001 60 -1");
        due("5001 rows", over.valid(0), -1);
        due("5001 rows", over.proved(), false);
        dueThrow("5001 rows", STATE, () -> over.counter(0, 0));
        due("it is said all the same", over.say(0) > 0, true);
        due("fewer", over.pre("a=a|a=a"), 0);
        due("3334 rows", over.about(0, 2), 3334);
        due("3334 rows", over.valid(0), 1);
        due("3334 rows", over.proved(), true);
        due("more again", over.pre("a=a|a=a|a=a"), 0);
        due("5001 rows", over.valid(0), -1);
        due("row 0 would fit", over.program(asserts("a=b", 8, 8, 8, 8, 8, 8, 7)), 0);
        due("unknown all the same", over.about(0), "0 0 5001 60 -1");
        due("unknown all the same", over.valid(0), -1);
        dueThrow("unknown all the same", STATE, () -> over.counter(0, 0));
        due("fewer", over.pre("a=a|a=a"), 0);
        due("it fits", over.about(0), "0 0 3334 59 0");
        due("it fits", over.counters(0), "-1 0 0 0 0 0 0 0 0 0");

        Desk more = desk("a#b&a#b&a#b&(a#b&a#b|0=0)|0=0", "0=0", asserts("0=0", 6, 5, 4, 3));
        due("5002 rows", more.about(0), "0 0 5001 26 -1");
        due("5002 rows", more.valid(0), -1);
        Desk many = desk("0=0", joined(8, "a=b", "|"), joined(4, "if a<b then a:=a+1 else b:=b+1 fi", ";"));
        due("far more rows", many.about(0), "0 0 5001 159 -1");
        due("far more rows", many.valid(0), -1);
        due("all of them would fit", many.post("0<0"), 0);
        due("unknown all the same", many.about(0), "0 0 5001 47 -1");
        due("fewer", many.program(joined(3, "if a<b then a:=a+1 else b:=b+1 fi", ";")), 0);
        due("676 rows", many.about(0, 2), 676);
        due("676 rows", many.valid(0), 0);
    }

    private static void rowsOfAtoms() {
        sentence = "of an atom one row with it, but of # two: with <, with >";
        String[] ops = {"<", "<=", "=", "#", ">=", ">"};
        int[] rowsTrue = {1, 1, 1, 2, 1, 1};
        int[] rowsFalse = {1, 1, 2, 1, 1, 1};
        String[] firstTrue = {"-1", "0", "0", "-1", "0", "1"};
        String[] firstFalse = {"0", "1", "-1", "0", "-1", "0"};
        for (int i = 0; i < ops.length; i++) {
            Desk isTrue = desk("a" + ops[i] + "0", "0<0", "skip");
            due("true " + ops[i], isTrue.about(0), "0 0 " + rowsTrue[i] + " 2 0");
            due("true " + ops[i], "" + isTrue.counter(0, 0), firstTrue[i]);
            Desk isFalse = desk("0<1", "a" + ops[i] + "0", "skip");
            due("false " + ops[i], isFalse.about(0), "0 0 " + rowsFalse[i] + " 2 0");
            due("false " + ops[i], "" + isFalse.counter(0, 0), firstFalse[i]);
            Desk twice = desk("0<1", "!!a" + ops[i] + "0", "skip");
            due("false !! " + ops[i], twice.about(0), "0 0 " + rowsFalse[i] + " 2 0");
            Desk once = desk("0<1", "!a" + ops[i] + "0", "skip");
            due("false ! " + ops[i], once.about(0), "0 0 " + rowsTrue[i] + " 2 0");
        }
        due("with > alone", desk("a>=0&a#0", "0<0", "skip").about(0), "0 0 2 3 1");
        due("with < alone", desk("a<=0&a#0", "0<0", "skip").about(0), "0 0 2 3 0");
        due("with > alone", desk("a>=0", "a=0", "skip").about(0), "0 0 2 2 1");
        due("with < alone", desk("a<=0", "a=0", "skip").about(0), "0 0 2 2 0");
        due("no row fits", desk("a#0&a>0&a<0", "0<0", "skip").about(0), "0 0 2 4 -1");
        due("the second row", desk("a#0", "a<=0", "skip").about(0), "0 0 2 2 1");
        due("the last of four", desk("a#0&b#0", "a<=0|b<=0", "skip").about(0), "0 0 4 4 3");
        due("q turns first", desk("a#0&b#0", "a<0&b<=0|a>0&b<0", "skip").about(0, 4), 6);
        due("p, then q", desk("0<1", "a>0&a<9", "skip").about(0), "0 0 2 3 0");
        due("p, then q", desk("a=0|b#0", "a=0", "skip").about(0), "0 0 6 3 2");
        due("p, then q", desk("b#0|a=0", "b#0", "skip").about(0), "0 0 3 3 2");
    }

    private static void counterexampleIsTheGreatest() {
        sentence = "a number for each variable and ghost, and one for 0, all 0 at most, .. and all as great as can be";
        String[][] rows = {
            {"a>0", "1 1 1 1 1 1 1 1 1 1"}, {"a>=0", "0 0 0 0 0 0 0 0 0 0"}, {"a<0", "-1 0 0 0 0 0 0 0 0 0"},
            {"a<=0", "0 0 0 0 0 0 0 0 0 0"}, {"a>=1&b<=0", "1 0 1 1 1 1 1 1 1 1"},
            {"a>=999", "999 999 999 999 999 999 999 999 999 999"}, {"a<=-999", "-999 0 0 0 0 0 0 0 0 0"},
            {"f>e&e>d&d>c&c>b&b>a", "-5 -4 -3 -2 -1 0 0 0 0 0"}, {"a>b+999&b>c+999", "0 -1000 -2000 0 0 0 0 0 0 0"},
            {"a=5&b=-5&c<a", "5 -5 4 5 5 5 5 5 5 5"}, {"a<b&b<a+2", "-1 0 0 0 0 0 0 0 0 0"}};
        for (String[] row : rows) {
            due(row[0], desk(row[0], "0<0", "skip").counters(0), row[1]);
        }
        Desk tight = desk("a<b&b<a+2", "a=b-1", "skip");
        due("valid by one", tight.valid(0), 1);
        due("one more", tight.pre("a<b&b<a+3"), 0);
        due("not valid", tight.valid(0), 0);
        due("row", tight.about(0, 4), 0);
        due("counter", tight.counters(0), "-2 0 0 0 0 0 0 0 0 0");
        due("valid again", tight.pre("a<b&b<a+2"), 0);
        dueThrow("counter", STATE, () -> tight.counter(0, 0));
        Desk none = desk("a<b&b<a+1", "0<0", "skip");
        due("no integers between", none.valid(0), 1);
        Desk ghosts = desk("0=0", "0<0", "{w<x&x<y&y<z&z<a}");
        due("ghosts", ghosts.counters(1), "0 0 0 0 0 0 -4 -3 -2 -1");
        Desk far = desk("0=0", "b<=a", joined(18, "a:=a-999", ";") + ";b:=b+999");
        due("far numbers", far.counters(0), "0 0 0 0 0 0 0 0 0 0");
        due("far numbers", far.post("b>=a"), 0);
        due("far numbers", far.counters(0), "0 -18982 0 0 0 0 0 0 0 0");
    }

    // ---- Runs

    private static void runBeginsAtTheValuesThatThereAre() {
        sentence = "A RUN goes from the values that there are (0 at first, and when a program is read)";
        Desk desk = new Desk();
        due("at first", desk.values(), "0 0 0 0 0 0");
        desk.start(0, 5);
        due("PRE and POST leave them", desk.pre("a=1"), 0);
        due("PRE and POST leave them", desk.post("a=1"), 0);
        due("values", desk.values(), "5 0 0 0 0 0");
        due("program", desk.program("a:=a+1;b:=b+2"), 0);
        due("when a program is read", desk.values(), "0 0 0 0 0 0");
        due("run", desk.run(2), 0);
        due("run", desk.run(2), 0);
        due("values", desk.values(), "2 4 0 0 0 0");
        due("a run that stops", desk.run(1), 1);
        due("values", desk.values(), "3 4 0 0 0 0");
        due("begins with the first statement again", desk.run(2), 0);
        due("values", desk.values(), "4 6 0 0 0 0");
        due("a fault", desk.program("a:="), 4);
        due("leaves them", desk.values(), "4 6 0 0 0 0");
        due("the same program", desk.program("a:=a+1;b:=b+2"), 0);
        due("when a program is read", desk.values(), "0 0 0 0 0 0");
    }

    private static void zero(Desk desk) {
        for (int v = 0; v < 6; v++) {
            desk.start(v, 0);
        }
    }

    /** With that many steps the program ends, with each smaller number it stops. */
    private static void dueSteps(String program, int steps) {
        Desk desk = desk(program);
        for (int n = 0; n <= steps + 1; n++) {
            zero(desk);
            due("run(" + n + ") of " + program, desk.run(n), n < steps ? 1 : 0);
        }
    }

    private static void eachStatementAndEachLookIsAStep() {
        sentence = "each statement, and each time that a while looks at its condition, is a STEP "
            + "(a cut is one and does nothing)";
        dueSteps("skip", 1);
        dueSteps("a:=1", 1);
        dueSteps("assert 0=0", 1);
        dueSteps("{0=0}", 1);
        dueSteps("{0=1}", 1);
        dueSteps("{0=1};{0=1};skip", 3);
        dueSteps("if 0=0 then skip else skip;skip fi", 2);
        dueSteps("if 0=1 then skip else skip;skip fi", 3);
        dueSteps("if 0=0 then if 0=0 then skip else skip fi else skip fi", 3);
        // The while is a statement, and so a step; each look of it is one more.
        dueSteps("while 0=1 inv 0=0 do skip od", 1 + 1);
        dueSteps("while a<1 inv 0=0 do a:=a+1 od", 1 + 2 + 1);
        dueSteps("while a<2 inv 0=0 do a:=a+1 od", 1 + 3 + 2);
        dueSteps("while a<2 inv 0=0 var a do skip;a:=a+1;{0=1} od", 1 + 3 + 2 * 3);
        dueSteps("skip;while a<1 inv 0=0 do a:=a+1 od;skip", 1 + (1 + 2 + 1) + 1);
        dueSteps("while a<1 inv 0=0 do a:=a+1 od;while b<1 inv 0=0 do b:=b+1 od", 2 * (1 + 2 + 1));
        dueSteps("while a<2 inv 0=0 do a:=a+1;while b<a inv 0=0 do b:=b+1 od od", 1 + 3 + 2 * (1 + (1 + 2 + 1)));
        dueSteps("while a<2 inv 0=0 do a:=a+1;while 0=1 inv 0=0 do skip od od", 1 + 3 + 2 * (1 + 2));
        dueSteps("if 0=0 then while a<1 inv 0=0 do a:=a+1 od else skip fi", 1 + (1 + 2 + 1));
        dueSteps("while a<1 inv 0=0 do if a=0 then a:=1 else skip fi od", 1 + 2 + 2);

        Desk desk = desk("while a<9 inv 0=0 do a:=a+1 od");
        long[] values = {0, 0, 0, 1, 1, 2, 2, 3};
        for (int n = 0; n < values.length; n++) {
            zero(desk);
            due("run(" + n + ")", desk.run(n), 1);
            due("value after " + n + " steps", desk.value(0), values[n]);
        }
        Desk cut = desk("a:=1;{a=2};a:=3");
        due("a false cut", cut.run(2), 1);
        due("does nothing", cut.values(), "1 0 0 0 0 0");
        due("a false cut", cut.run(3), 0);
        due("does nothing", cut.values(), "3 0 0 0 0 0");
    }

    private static void runStopsBeforeAStepTooMany() {
        sentence = "It ENDS behind the last one (0), STOPS before a step that would be one too many (1)";
        Desk desk = desk("a:=1;b:=2;if a=1 then c:=3 else d:=4 fi;skip;f:=6");
        String[] values = {"0 0 0 0 0 0", "1 0 0 0 0 0", "1 2 0 0 0 0", "1 2 0 0 0 0", "1 2 3 0 0 0",
            "1 2 3 0 0 0", "1 2 3 0 0 6"};
        for (int n = 0; n <= 6; n++) {
            zero(desk);
            due("run(" + n + ")", desk.run(n), n < 6 ? 1 : 0);
            due("values after " + n, desk.values(), values[n]);
        }
        zero(desk);
        due("run(7)", desk.run(7), 0);
        due("values after 7", desk.values(), values[6]);
        Desk one = desk("e:=5");
        due("no step at all", one.run(0), 1);
        due("nothing is done", one.values(), "0 0 0 0 0 0");
        due("the one step", one.run(1), 0);
        due("it is done", one.values(), "0 0 0 0 5 0");
        Desk endless = desk("while 0=0 inv 0=0 do skip od");
        for (int n : new int[] {0, 1, 2, 3, 1999, 2000}) {
            due("endless, run(" + n + ")", endless.run(n), 1);
        }
    }

    private static void runFailsAtAFalseAssert() {
        sentence = "or FAILS at an assert that is false (2)";
        Desk desk = desk("a:=a+1;assert a<=2;b:=b+1");
        due("stops before the assert", desk.run(1), 1);
        due("values", desk.values(), "1 0 0 0 0 0");
        due("a true assert", desk.run(2), 1);
        due("values", desk.values(), "2 0 0 0 0 0");
        due("stops before a false assert", desk.run(1), 1);
        due("values", desk.values(), "3 0 0 0 0 0");
        due("fails at it with its step", desk.run(2), 2);
        due("what was done stays", desk.values(), "4 0 0 0 0 0");
        due("fails with more steps", desk.run(2000), 2);
        due("nothing behind it is done", desk.values(), "5 0 0 0 0 0");
        desk.start(0, 1);
        due("the last that is true", desk.run(3), 0);
        due("values", desk.values(), "2 1 0 0 0 0");
        Desk last = desk("assert a=0");
        due("true", last.run(1), 0);
        last.start(0, 1);
        due("false", last.run(1), 2);
        due("no step for it", last.run(0), 1);
        last.start(0, -1);
        due("false", last.run(1), 2);
        Desk within = desk("while a<3 inv 0=0 do assert a#2;a:=a+1 od");
        due("within a while", within.run(8), 1);
        within.start(0, 0);
        due("within a while", within.run(9), 2);
        due("value", within.value(0), 2L);
        due("a false cut does not fail", desk("{0=1}").run(1), 0);
        due("a false invariant does not fail", desk("while 0=1 inv 0=1 do skip od").run(2), 0);
    }

    private static void runHas2000StepsAtMost() {
        sentence = "A RUN of at most so many steps (0 .. 2000)";
        Desk desk = desk("while a<999 inv 0=0 do a:=a+1 od");
        due("1999 of 2000 steps", desk.run(1999), 1);
        due("value", desk.value(0), 999L);
        desk.start(0, 0);
        due("2000 of 2000 steps", desk.run(2000), 0);
        due("value", desk.value(0), 999L);
        desk.start(0, 0);
        dueThrow("run(2001)", ARGUMENT, () -> desk.run(2001));
        dueThrow("run(-1)", ARGUMENT, () -> desk.run(-1));
        for (int far : FAR) {
            dueThrow("run(" + far + ")", ARGUMENT, () -> desk.run(far));
        }
        due("nothing is changed", desk.values(), "0 0 0 0 0 0");
        due("run(0)", desk.run(0), 1);
        due("nothing is changed", desk.values(), "0 0 0 0 0 0");
        Desk longer = desk("skip;while a<999 inv 0=0 do a:=a+1 od");
        due("2000 of 2001 steps", longer.run(2000), 1);
        due("value", longer.value(0), 999L);
    }

    private static void valuesAreAsGreatAsTheyMayBe() {
        sentence = "All are integers, as great as they may be";
        Desk desk = desk("a>b", "a<b", "a:=a+999;b:=b-999");
        desk.start(0, Integer.MAX_VALUE);
        desk.start(1, Integer.MIN_VALUE);
        due("run", desk.run(2), 0);
        due("values", desk.values(), (Integer.MAX_VALUE + 999L) + " " + (Integer.MIN_VALUE - 999L) + " 0 0 0 0");
        due("a > b", desk.holds(0), true);
        due("a < b", desk.holds(1), false);
        Desk climb = desk("a>=c+1", "a+999>c", joined(18, "a:=a+999", ";") + ";while 0=0 inv 0=0 do a:=a+999 od");
        climb.start(0, Integer.MAX_VALUE);
        climb.start(2, Integer.MAX_VALUE);
        due("PRE", climb.holds(0), false);
        for (int i = 0; i < 400; i++) {
            due("run", climb.run(2000), 1);
        }
        // 18 assignments, the while itself, then a look and an assignment in turn: 990 of them.
        due("value", climb.value(0), Integer.MAX_VALUE + 400L * (18 + 990) * 999);
        due("PRE", climb.holds(0), true);
        due("POST", climb.holds(1), true);
    }

    // ---- What throws

    private static Call[] refusedCalls(Desk desk) {
        List<Call> all = new ArrayList<>();
        for (int far : new int[] {-1, 2, Integer.MIN_VALUE, Integer.MAX_VALUE}) {
            all.add(() -> desk.about(far, 0));
            all.add(() -> desk.about(0, far == 2 ? 5 : far));
            all.add(() -> desk.valid(far));
            all.add(() -> desk.counter(far, 0));
            all.add(() -> desk.counter(0, far == 2 ? 10 : far));
            all.add(() -> desk.say(far));
            all.add(() -> desk.out(far == 2 ? 12 : far));
            all.add(() -> desk.start(far == 2 ? 6 : far, 3));
            all.add(() -> desk.run(far == 2 ? 2001 : far));
            all.add(() -> desk.value(far == 2 ? 6 : far));
            all.add(() -> desk.holds(far));
        }
        return all.toArray(new Call[0]);
    }

    private static void throwingChangesNothing() {
        sentence = "A call that throws changes nothing (but for the tape)";
        Desk desk = busyDesk();
        due("post", desk.post("b=3"), 0);
        due("typing", desk.put("c"), true);
        String before = desk.state();
        int thrown = 0;
        for (Call call : refusedCalls(desk)) {
            thrown += String.valueOf(outcome(call)).endsWith("Exception") ? 1 : 0;
        }
        due("calls that throw", thrown, 44);
        due("state", desk.state(), before);
        due("the tape", desk.put("=5"), true);
        due("the tape", desk.pre(), 0);
        due("say", desk.said(0), "(!c=5|a+1=2)");

        Desk fresh = new Desk();
        due("typing", fresh.put("a:"), true);
        String empty = fresh.state();
        for (Call call : refusedCalls(fresh)) {
            due("throws", String.valueOf(outcome(call)).endsWith("Exception"), true);
        }
        due("state", fresh.state(), empty);
        due("the tape", fresh.put("=5"), true);
        due("the tape", fresh.program(), 0);
        due("run", fresh.run(1), 0);
        due("value", fresh.value(0), 5L);
    }

    private static void firstNamedExceptionComes() {
        sentence = "where several exceptions that a call names fit, it is the one that it names first";
        Desk none = new Desk();
        for (int k : new int[] {0, -1, 1, Integer.MIN_VALUE, Integer.MAX_VALUE}) {
            dueThrow("about without a program", STATE, () -> none.about(k, 0));
            dueThrow("about without a program", STATE, () -> none.about(0, k));
            dueThrow("about without a program", STATE, () -> none.about(k, 5));
            dueThrow("valid without a program", STATE, () -> none.valid(k));
            dueThrow("counter without a program", STATE, () -> none.counter(k, 0));
            dueThrow("counter without a program", STATE, () -> none.counter(k, 10));
            dueThrow("say without a program", STATE, () -> none.say(k));
            dueThrow("run without a program", STATE, () -> none.run(k));
        }
        dueThrow("conditions without a program", STATE, () -> none.conditions());
        dueThrow("proved without a program", STATE, () -> none.proved());
        dueThrow("run(2001) without a program", STATE, () -> none.run(2001));
        dueThrow("out without a program", INDEX, () -> none.out(0));
        due("start without a program", none.start(0, 1), true);
        due("value without a program", none.value(0), 1L);
        due("holds without a program", none.holds(0), true);
        due("a program", none.program("skip"), 0);
        due("then they answer", none.about(0), "0 0 2 2 -1");

        Desk desk = desk("a=1", "b=2", "b:=a;{b=2}");
        due("not valid", desk.valid(0), 0);
        due("valid", desk.valid(1), 1);
        due("not valid, a variable", desk.counter(0, 9), 1);
        dueThrow("not valid, no variable", INDEX, () -> desk.counter(0, 10));
        dueThrow("not valid, no variable", INDEX, () -> desk.counter(0, -1));
        dueThrow("valid, a variable", STATE, () -> desk.counter(1, 9));
        dueThrow("valid, no variable", STATE, () -> desk.counter(1, 10));
        dueThrow("valid, no variable", STATE, () -> desk.counter(1, -1));
        dueThrow("no condition, a variable", INDEX, () -> desk.counter(2, 0));
        dueThrow("no condition, no variable", INDEX, () -> desk.counter(2, 10));
        dueThrow("no condition, no what", INDEX, () -> desk.about(2, 5));
        Desk unknown = desk("a=a|a=a|a=a", "0=0&0<1", asserts("0=0", 8, 8, 8, 8, 8, 8, 7));
        dueThrow("unknown, a variable", STATE, () -> unknown.counter(0, 9));
        dueThrow("unknown, no variable", STATE, () -> unknown.counter(0, 10));
        dueThrow("no condition beside an unknown one", INDEX, () -> unknown.counter(1, 0));
    }

    private static void conditionsAndWhatsAreCounted() {
        sentence = "IndexOutOfBoundsException when there is no such condition or what";
        String[] programs = {"skip", "{a=b}", "while a<b inv a=b do skip od", "while a<b inv a=b var a do {a=b} od"};
        int[] many = {1, 2, 3, 5};
        for (int i = 0; i < programs.length; i++) {
            Desk desk = desk(programs[i]);
            int n = many[i];
            due("conditions", desk.conditions(), n);
            for (int k : new int[] {n, n + 1, -1, -2, Integer.MIN_VALUE, Integer.MAX_VALUE}) {
                dueThrow("about(" + k + ", 0)", INDEX, () -> desk.about(k, 0));
                dueThrow("about(" + k + ", 4)", INDEX, () -> desk.about(k, 4));
                dueThrow("valid(" + k + ")", INDEX, () -> desk.valid(k));
                dueThrow("counter(" + k + ", 0)", INDEX, () -> desk.counter(k, 0));
                dueThrow("say(" + k + ")", INDEX, () -> desk.say(k));
            }
            for (int what : new int[] {5, 6, -1, Integer.MIN_VALUE, Integer.MAX_VALUE}) {
                dueThrow("about(0, " + what + ")", INDEX, () -> desk.about(0, what));
                dueThrow("about(last, " + what + ")", INDEX, () -> desk.about(n - 1, what));
            }
            due("the first", desk.about(0, 0), 0);
            due("the last", desk.about(n - 1, 4) >= -1, true);
            due("the last", desk.valid(n - 1) >= 0, true);
            due("the last", desk.say(n - 1) > 0, true);
            due("a program with one alone", desk.program("a:=1"), 0);
            dueThrow("a condition of the old program", INDEX, () -> desk.valid(1));
            due("the one", desk.valid(0), 1);
        }
    }

    private static void provedWhenAllAreValid() {
        sentence = "Whether all are valid";
        String loop = "while a<9 inv a<=9 var c do a:=a+1;c:=c-1 od;{a=9}";
        due("all but the last", desk("a<=9", "a=8", loop).proved(), false);
        due("all but the one of the variant", desk("a<=9", "a=9", loop).proved(), false);
        Desk desk = desk("a<=9", "a=9", "while a<9 inv a<=9 do a:=a+1 od;{a=9}");
        due("all", desk.proved(), true);
        due("pre", desk.pre("a<=10"), 0);
        due("all but the first", desk.proved(), false);
        due("pre", desk.pre("a<=8"), 0);
        due("all again", desk.proved(), true);
        due("post", desk.post("a=8"), 0);
        due("all but the last", desk.proved(), false);
        due("program", desk.program("a:=8"), 0);
        due("the one", desk.proved(), true);
        due("a fault", desk.program("a:=9;"), 6);
        due("the one", desk.proved(), true);
        due("program", desk.program("a:=9"), 0);
        due("not the one", desk.proved(), false);
    }

    private static void outHasTheBytesThatCameOutLast() {
        sentence = "Byte i of what came out last. IndexOutOfBoundsException";
        Desk desk = new Desk();
        for (int i : new int[] {0, -1, 1, Integer.MIN_VALUE, Integer.MAX_VALUE}) {
            dueThrow("out before anything came", INDEX, () -> desk.out(i));
        }
        dueThrow("say without a program", STATE, () -> desk.say(0));
        dueThrow("still nothing", INDEX, () -> desk.out(0));
        due("program", desk.program("assert a=b"), 0);
        dueThrow("still nothing", INDEX, () -> desk.out(0));
        due("say", desk.said(0), "(!0=0|(a=b&0=0))");
        due("the first byte", desk.out(0), (int) '(');
        due("the last byte", desk.out(15), (int) ')');
        for (int i : new int[] {16, 17, -1, Integer.MIN_VALUE, Integer.MAX_VALUE}) {
            dueThrow("out(" + i + ")", INDEX, () -> desk.out(i));
        }
        dueThrow("a say that throws", INDEX, () -> desk.say(1));
        due("leaves it", desk.came(16), "(!0=0|(a=b&0=0))");
        due("a shorter one", desk.program("skip"), 0);
        due("not said yet", desk.came(16), "(!0=0|(a=b&0=0))");
        due("say", desk.say(0), 10);
        due("the last byte", desk.out(9), (int) ')');
        dueThrow("bytes of the longer one", INDEX, () -> desk.out(10));
        due("a longer one", desk.pre(joined(8, "a=b", "&")), 0);
        due("a longer one", desk.say(0), 52);
        due("the last byte", desk.out(51), (int) ')');
        dueThrow("out(52)", INDEX, () -> desk.out(52));
        Desk longest = desk(joined(8, "a-999=b-999", "|"), joined(8, "a-999=b-999", "&"),
            joined(4, "if " + joined(4, "a=b-999", "|") + " then a:=a-999 else b:=b-999 fi", ";"));
        int size = longest.say(0);
        due("the last byte of a long one", longest.out(size - 1), (int) ')');
        dueThrow("behind a long one", INDEX, () -> longest.out(size));
    }

    private static void startAndValueKnowSixVariables() {
        sentence = "IndexOutOfBoundsException when v is not 0 .. 5";
        Desk desk = new Desk();
        for (int v = 0; v < 6; v++) {
            due("start", desk.start(v, 10 + v), true);
        }
        due("values", desk.values(), "10 11 12 13 14 15");
        for (int v : new int[] {-1, 6, 7, 8, 9, 10, Integer.MIN_VALUE, Integer.MAX_VALUE}) {
            dueThrow("start(" + v + ", 1)", INDEX, () -> desk.start(v, 1));
            dueThrow("value(" + v + ")", INDEX, () -> desk.value(v));
        }
        due("nothing is changed", desk.values(), "10 11 12 13 14 15");
        for (int value : new int[] {Integer.MIN_VALUE, -1, 0, 1, Integer.MAX_VALUE}) {
            desk.start(0, value);
            desk.start(5, -value);
            due("value", desk.value(0), (long) value);
            due("value", desk.value(5), (long) -value);
        }
    }

    private static void holdsKnowsTwo() {
        sentence = "Whether PRE (0) or POST (1) is true of the values now. IndexOutOfBoundsException for another what";
        Desk desk = new Desk();
        due("pre", desk.pre("a=1"), 0);
        due("post", desk.post("a=2"), 0);
        for (int what : new int[] {-1, 2, 3, Integer.MIN_VALUE, Integer.MAX_VALUE}) {
            dueThrow("holds(" + what + ")", INDEX, () -> desk.holds(what));
        }
        for (int value = 0; value <= 3; value++) {
            desk.start(0, value);
            due("PRE of " + value, desk.holds(0), value == 1);
            due("POST of " + value, desk.holds(1), value == 2);
        }
        String[] ops = {"<", "<=", "=", "#", ">=", ">"};
        String[] truths = {"110100", "011010", "000111"};
        for (int i = 0; i < ops.length; i++) {
            Desk other = new Desk();
            due("pre", other.pre("a" + ops[i] + "5&0=0"), 0);
            due("post", other.post("!b-1" + ops[i] + "-1|0=1"), 0);
            for (int side = -1; side <= 1; side++) {
                boolean truth = truths[side + 1].charAt(i) == '1';
                other.start(0, 5 + side);
                other.start(1, side);
                due(5 + side + ops[i] + "5", other.holds(0), truth);
                due("!" + (side - 1) + ops[i] + "-1", other.holds(1), !truth);
            }
        }
        due("program", desk.program("a:=a+1"), 0);
        due("of the values now", desk.holds(0), false);
        due("run", desk.run(1), 0);
        due("of the values now", desk.holds(0), true);
        due("run", desk.run(1), 0);
        due("of the values now", desk.holds(1), true);
    }
}
