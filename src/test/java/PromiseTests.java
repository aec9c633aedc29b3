/** What each promise of the document says: ordinary inputs, the edges that it names, and wrong inputs. */
public final class PromiseTests {
    private static int wrong = 0;
    private static int promise = 0;

    private static final String STATE = "IllegalStateException";
    private static final String INDEX = "IndexOutOfBoundsException";
    private static final String ARGUMENT = "IllegalArgumentException";

    private interface Call {
        Object answer();
    }

    public static void main(String[] args) {
        promise1NewObject();
        promise2Type();
        promise3Pre();
        promise3FaultsOfConditions();
        promise4Post();
        promise5Program();
        promise5FaultsOfPrograms();
        promise5Limits();
        promise6Conditions();
        promise7About();
        promise7Edges();
        promise8Valid();
        promise9Proved();
        promise10Counter();
        promise11Say();
        promise11Claims();
        promise12Out();
        promise13Start();
        promise14Run();
        promise14Steps();
        promise15Value();
        promise16Holds();
        System.out.println(wrong == 0 ? "all promises are kept" : wrong + " answers are not as due");
        if (wrong != 0) {
            System.exit(1);
        }
    }

    // ---- what the tests share

    private static void due(String what, Object got, Object want) {
        if (!got.equals(want)) {
            wrong++;
            System.out.println("promise " + promise + ": " + what + " answered " + got + ", due is " + want);
        }
    }

    /** The answer, or the name of what was thrown. */
    private static Object outcome(Call call) {
        try {
            return call.answer();
        } catch (RuntimeException e) {
            return e.getClass().getSimpleName();
        }
    }

    private static void dueThrow(String what, String want, Call call) {
        due(what, outcome(call), want);
    }

    private static void type(TripleDesk desk, String text) {
        for (int at = 0; at < text.length(); at += 8) {
            int n = Math.min(8, text.length() - at);
            long w = 0;
            for (int i = 0; i < n; i++) {
                w |= (long) text.charAt(at + i) << (8 * i);
            }
            due("type of " + text, desk.type(w, n), true);
        }
    }

    private static int pre(TripleDesk desk, String text) {
        type(desk, text);
        return desk.pre();
    }

    private static int post(TripleDesk desk, String text) {
        type(desk, text);
        return desk.post();
    }

    private static int program(TripleDesk desk, String text) {
        type(desk, text);
        return desk.program();
    }

    private static TripleDesk desk(String pre, String post, String program) {
        TripleDesk desk = new TripleDesk();
        due("pre of " + pre, pre(desk, pre), 0);
        due("post of " + post, post(desk, post), 0);
        due("program of " + program, program(desk, program), 0);
        return desk;
    }

    private static TripleDesk desk(String program) {
        return desk("0=0", "0=0", program);
    }

    private static String said(TripleDesk desk, int k) {
        int size = desk.say(k);
        StringBuilder all = new StringBuilder();
        for (int i = 0; i < size; i++) {
            all.append((char) desk.out(i));
        }
        due("out behind what was said", outcome(() -> desk.out(size)), INDEX);
        return all.toString();
    }

    private static String values(TripleDesk desk) {
        StringBuilder all = new StringBuilder();
        for (int v = 0; v < 6; v++) {
            all.append(v == 0 ? "" : " ").append(desk.value(v));
        }
        return all.toString();
    }

    private static String counters(TripleDesk desk, int k) {
        StringBuilder all = new StringBuilder();
        for (int v = 0; v < 10; v++) {
            all.append(v == 0 ? "" : " ").append(desk.counter(k, v));
        }
        return all.toString();
    }

    private static String about(TripleDesk desk, int k) {
        StringBuilder all = new StringBuilder();
        for (int what = 0; what < 5; what++) {
            all.append(what == 0 ? "" : " ").append(desk.about(k, what));
        }
        return all.toString();
    }

    private static String times(int n, String text) {
        return text.repeat(n);
    }

    // ---- the promises

    private static void promise1NewObject() {
        promise = 1;
        TripleDesk desk = new TripleDesk();
        dueThrow("conditions()", STATE, () -> desk.conditions());
        dueThrow("about(0, 0)", STATE, () -> desk.about(0, 0));
        dueThrow("about(9, 9)", STATE, () -> desk.about(9, 9));
        dueThrow("valid(0)", STATE, () -> desk.valid(0));
        dueThrow("valid(-1)", STATE, () -> desk.valid(-1));
        dueThrow("proved()", STATE, () -> desk.proved());
        dueThrow("counter(0, 0)", STATE, () -> desk.counter(0, 0));
        dueThrow("counter(7, 77)", STATE, () -> desk.counter(7, 77));
        dueThrow("say(0)", STATE, () -> desk.say(0));
        dueThrow("run(1)", STATE, () -> desk.run(1));
        dueThrow("run(-1)", STATE, () -> desk.run(-1));
        dueThrow("out(0)", INDEX, () -> desk.out(0));
        due("values", values(desk), "0 0 0 0 0 0");
        due("PRE", desk.holds(0), true);
        due("POST", desk.holds(1), true);
        due("pre of the empty tape", desk.pre(), 1);
        due("post of the empty tape", desk.post(), 1);
        due("program of the empty tape", desk.program(), 1);
        TripleDesk other = new TripleDesk();
        due("program", program(other, "skip"), 0);
        dueThrow("conditions() of another object", STATE, () -> desk.conditions());
    }

    private static void promise2Type() {
        promise = 2;
        TripleDesk desk = new TripleDesk();
        due("type(w, 0)", desk.type('a', 0), false);
        due("type(w, 9)", desk.type('a', 9), false);
        due("type(w, -1)", desk.type('a', -1), false);
        due("type(w, least)", desk.type('a', Integer.MIN_VALUE), false);
        due("type(w, greatest)", desk.type('a', Integer.MAX_VALUE), false);
        due("nothing was typed", desk.pre(), 1);
        due("lowest first", desk.type('a' | '<' << 8 | '1' << 16 | '?' << 24, 3), true);
        due("lowest first", desk.pre(), 0);
        due("a<1", desk.holds(0), true);
        desk.start(0, 1);
        due("a<1", desk.holds(0), false);
        due("eight bytes, d>=a+999", desk.type(0x3939392b613d3e64L, 8), true);
        due("eight bytes, d>=a+999", desk.pre(), 0);
        due("d>=a+999", desk.holds(0), false);
        desk.start(3, 1000);
        due("d>=a+999", desk.holds(0), true);

        TripleDesk full = new TripleDesk();
        for (int i = 0; i < 49; i++) {
            due("blanks", full.type(0x2020202020202020L, 8), true);
        }
        due("392 + 7", full.type(0x2020202020202020L, 7), true);
        due("399 + 2", full.type('a' | 'a' << 8, 2), false);
        due("399 + 8", full.type(0x6161616161616161L, 8), false);
        due("399 + 1", full.type(' ', 1), true);
        due("400 + 1", full.type('a', 1), false);
        due("400 + 9", full.type('a', 9), false);
        due("400 blanks", full.pre(), 401);
        due("the tape is empty", full.pre(), 1);
    }

    private static void promise3Pre() {
        promise = 3;
        TripleDesk desk = desk("0=0", "0=0", "skip");
        due("say", said(desk, 0), "(!0=0|0=0)");
        due("pre", pre(desk, " a < b "), 0);
        due("say", said(desk, 0), "(!a<b|0=0)");
        due("holds", desk.holds(0), false);
        due("fault", pre(desk, "a > b b"), 7);
        due("a fault changes nothing", said(desk, 0), "(!a<b|0=0)");
        due("a fault takes the tape", desk.pre(), 1);
        due("a fault changes nothing", desk.holds(0), false);
        due("claim 0 is decided anew", pre(desk, "0=1"), 0);
        due("valid", desk.valid(0), 1);
        post(desk, "a=b");
        due("valid", desk.valid(0), 1);
        pre(desk, "a<=b");
        due("valid", desk.valid(0), 0);
        pre(desk, "a<=b&a>=b");
        due("valid", desk.valid(0), 1);

        due("from the left", pre(desk, "a=0|b=0|c=0"), 0);
        due("from the left", said(desk, 0), "(!((a=0|b=0)|c=0)|a=b)");
        due("from the left", pre(desk, "a=0&b=0&c=0"), 0);
        due("from the left", said(desk, 0), "(!((a=0&b=0)&c=0)|a=b)");
        due("& before |", pre(desk, "a=0|b=0&c=0|d=0"), 0);
        due("& before |", said(desk, 0), "(!((a=0|(b=0&c=0))|d=0)|a=b)");
        due("( )", pre(desk, "(a=0|b=0)&!(c=0|((d=0)))"), 0);
        due("( )", said(desk, 0), "(!((a=0|b=0)&!(c=0|d=0))|a=b)");
        due("! of a part alone", pre(desk, "!a=0&!!b=0|!(c=0)"), 0);
        due("! of a part alone", said(desk, 0), "(!((!a=0&!!b=0)|!c=0)|a=b)");
        due("terms", pre(desk, "a+1<b-2&-3<=4&c#-0&d+0>=e-0&005>f+010"), 0);
        due("terms", said(desk, 0), "(!((((a+1<b-2&-3<=4)&c#0)&d>=e)&5>f+10)|a=b)");
    }

    private static void dueFault(String text, int fault) {
        TripleDesk desk = new TripleDesk();
        due("fault of " + text, pre(desk, text), fault);
        due("fault of " + text, post(desk, text), fault);
        due("fault of assert " + text, program(desk, "assert " + text), fault == 0 ? 0 : fault + 7);
    }

    private static void promise3FaultsOfConditions() {
        promise = 3;
        dueFault("a=b", 0);
        dueFault("a", 2);
        dueFault("a   ", 5);
        dueFault("a=", 3);
        dueFault("a=b+", 5);
        dueFault("a=-", 4);
        dueFault("a=b&", 5);
        dueFault("a=b|  ", 7);
        dueFault("(a=b", 5);
        dueFault("!", 2);
        dueFault("a=b)", 4);
        dueFault("a=b c", 5);
        dueFault("a=b=c", 4);
        dueFault("a==b", 3);
        dueFault("a=>b", 3);
        dueFault("a<>b", 3);
        dueFault("a< =b", 4);
        dueFault("a:=b", 2);
        dueFault("a : b", 3);
        dueFault("=b", 1);
        dueFault("a=+3", 3);
        dueFault("+3=a", 1);
        dueFault("a=--3", 4);
        dueFault("a=3+3", 4);
        dueFault("a=3-3", 4);
        dueFault("a=b+c", 5);
        dueFault("a=b+-3", 5);
        dueFault("a=-b", 4);
        dueFault("a=999", 0);
        dueFault("a=1000", 3);
        dueFault("a=0001", 3);
        dueFault("a=b+1000", 5);
        dueFault("a=12a", 5);
        dueFault("a=1 2", 5);
        dueFault("ab=1", 1);
        dueFault("a=g", 3);
        dueFault("v=1", 1);
        dueFault("w=1", 1);
        dueFault("a=z", 3);
        dueFault("a=skip", 3);
        dueFault("a=A", 3);
        dueFault("a=b\n", 4);
        dueFault("a=b\0", 4);
        dueFault("a\u00e9b", 2);
        dueFault("a%b?", 2);
        dueFault("a=b&(c=d|e=f", 13);
        dueFault("a=b&()", 6);
        dueFault("a=b!", 4);
        dueFault("a!=b", 2);
        dueFault("(a)=b", 3);
        dueFault("- 5 < a + 3", 0);
        String seven = times(7, "a=b&");
        dueFault(seven + "a=b", 0);
        dueFault(seven + "a=b&a=b", 33);
        dueFault(seven + "a=b& !(a=b)", 36);
        dueFault(seven + "a=b&&", 33);
        dueFault(seven + "a=b&", 33);
        dueFault("(" + times(7, "a=b|") + "a=b)&c", 35);
        dueFault(times(10, "!") + "a=b", 0);
        dueFault(times(11, "!") + "a=b", 11);
        dueFault(times(10, "(") + "a=b" + times(10, ")"), 0);
        dueFault(times(11, "(") + "a=b" + times(11, ")"), 11);
        dueFault(times(5, "!(") + "a=b" + times(5, ")"), 0);
        dueFault(times(5, "!(") + "!a=b" + times(5, ")"), 11);
        dueFault(times(5, "!(") + "a=b&(a=b)" + times(5, ")"), 15);
        dueFault(times(10, "!") + "a=b&" + times(10, "!") + "a=b", 0);
        dueFault(times(10, "!") + "a=b&" + times(11, "!") + "a=b", 25);
    }

    private static void promise4Post() {
        promise = 4;
        TripleDesk desk = desk("a=0", "0=0", "b:=a+1");
        due("say", said(desk, 0), "(!a=0|0=0)");
        due("post", post(desk, "b=1"), 0);
        due("say", said(desk, 0), "(!a=0|a+1=1)");
        due("valid", desk.valid(0), 1);
        due("post", post(desk, "b=2"), 0);
        due("valid", desk.valid(0), 0);
        due("fault", post(desk, "b=1;"), 4);
        due("a fault changes nothing", said(desk, 0), "(!a=0|a+1=2)");
        due("a fault takes the tape", desk.post(), 1);
        due("ghost", post(desk, "x=1"), 1);
        due("holds", desk.holds(1), false);
        desk.start(1, 2);
        due("holds", desk.holds(1), true);
        due("PRE is another", desk.holds(0), true);
    }

    private static void promise5Program() {
        promise = 5;
        TripleDesk desk = desk("a=1", "b=1", "b:=a");
        desk.start(0, 1);
        due("run", desk.run(1), 0);
        due("values", values(desk), "1 1 0 0 0 0");
        int size = desk.say(0);
        due("fault", program(desk, "b:=c;"), 6);
        due("a fault changes nothing", values(desk), "1 1 0 0 0 0");
        due("a fault changes nothing", desk.conditions(), 1);
        due("a fault changes nothing", desk.valid(0), 1);
        due("a fault takes the tape", desk.program(), 1);
        due("program", program(desk, " { a = w } ; b := 2 "), 0);
        due("values are 0", values(desk), "0 0 0 0 0 0");
        due("conditions", desk.conditions(), 2);
        due("what came out stays", desk.out(size - 1), (int) ')');
        dueThrow("what came out stays", INDEX, () -> desk.out(size));
        due("PRE stays", said(desk, 0), "(!a=1|a=w)");
        due("POST stays", said(desk, 1), "(!a=w|2=1)");

        TripleDesk other = new TripleDesk();
        due("a faulty first program", program(other, "skip skip"), 6);
        dueThrow("no program was read", STATE, () -> other.conditions());
    }

    private static void dueProgram(String text, int fault) {
        due("fault of " + text, program(new TripleDesk(), text), fault);
    }

    private static void promise5FaultsOfPrograms() {
        promise = 5;
        dueProgram("skip", 0);
        dueProgram("skip;", 6);
        dueProgram(";skip", 1);
        dueProgram("skip;;skip", 6);
        dueProgram("skipskip", 1);
        dueProgram("skip skip", 6);
        dueProgram("a:=1", 0);
        dueProgram("a=1", 2);
        dueProgram("a: =1", 2);
        dueProgram("a:=", 4);
        dueProgram("a:=b-", 6);
        dueProgram("a:=w", 4);
        dueProgram("w:=1", 1);
        dueProgram("g:=1", 1);
        dueProgram("1:=1", 1);
        dueProgram("a:=1=1", 5);
        dueProgram("a:=(1)", 4);
        dueProgram("if a=b then skip else skip fi", 0);
        dueProgram("if a=b then skip fi", 18);
        dueProgram("if a=b skip else skip fi", 8);
        dueProgram("if a=w then skip else skip fi", 6);
        dueProgram("if a=b then else skip fi", 13);
        dueProgram("if a=b then skip else skip", 27);
        dueProgram("if a=b then skip else skip od", 28);
        dueProgram("if a=b then skip; else skip fi", 19);
        dueProgram("while a<b inv a=w do a:=a+1 od", 0);
        dueProgram("while a<b inv w<=a var b-2 do a:=a+1 od", 0);
        dueProgram("while a<w inv a=a do a:=a+1 od", 9);
        dueProgram("while a<b do a:=a+1 od", 11);
        dueProgram("while a<b inv a=b var w do skip od", 23);
        dueProgram("while a<b inv a=b var a=b do skip od", 24);
        dueProgram("while a<b inv a=b var do skip od", 23);
        dueProgram("while a<b var a inv a=b do skip od", 11);
        dueProgram("while a<b inv a=b skip od", 19);
        dueProgram("while a<b inv a=b do skip fi", 27);
        dueProgram("while a<b inv a=b do skip", 26);
        dueProgram("while a<b inv a=b do od", 22);
        dueProgram("assert a=b", 0);
        dueProgram("assert a=w", 10);
        dueProgram("assert", 7);
        dueProgram("{a=w}", 0);
        dueProgram("{a=w", 5);
        dueProgram("{a=w)", 5);
        dueProgram("{}", 2);
        dueProgram("}", 1);
        dueProgram("then", 1);
        dueProgram("if if", 4);
        dueProgram("skip od", 6);
        dueProgram("skip?", 5);
        dueProgram("Skip", 1);
        dueProgram("ship", 1);
        dueProgram("akip", 1);
        dueProgram("ski", 1);
        dueProgram("skips", 1);
        dueProgram("of a=b then skip else skip fi", 1);
    }

    private static void promise5Limits() {
        promise = 5;
        String nineteen = times(19, "skip;");
        dueProgram(nineteen + "skip", 0);
        dueProgram(nineteen + "skip;", 101);
        dueProgram(nineteen + "skip;skip", 101);
        dueProgram(nineteen + "skip;  a:=1", 103);
        dueProgram(nineteen + "if a=b then skip else skip fi", 108);
        dueProgram(nineteen + "{a=b};{a=b}", 102);
        dueProgram(times(17, "skip;") + "if a=b then skip else skip fi", 0);
        dueProgram(times(18, "skip;") + "if a=b then skip else skip fi", 113);
        String one = "if a=b then skip else skip fi;";
        dueProgram(times(4, one) + "skip", 0);
        dueProgram(times(4, one) + one + "skip", 121);
        String within = "if a=b then ";
        String rest = " else skip fi";
        dueProgram(times(4, within) + "skip" + times(4, rest), 0);
        dueProgram(times(5, within) + "skip" + times(5, rest), 49);
        String loop = "while a<b inv a=b do ";
        dueProgram(times(4, loop) + "skip" + times(4, " od"), 0);
        dueProgram(times(5, loop) + "skip" + times(5, " od"), 85);
        dueProgram(times(4, loop) + times(4, within) + "skip" + times(4, rest) + times(4, " od"), 0);
        String eight = times(7, "a=b&") + "a=b";
        dueProgram("assert " + eight + ";assert " + eight + ";{" + eight + "}", 0);
        dueProgram("assert " + eight + ";assert " + eight + "&a=b", 79);
        dueProgram("{" + times(10, "!") + "a=b};{" + times(11, "!") + "a=b}", 28);
        dueProgram("while " + eight + " inv " + eight + " do {" + eight + "} od", 0);
        dueProgram("while " + eight + " inv " + eight + "|w=x do skip od", 75);
        String full = times(19, "skip ; ") + "skip";
        dueProgram(full + times(400 - full.length(), " "), 0);
        dueProgram("skip ;" + times(394, " "), 401);
        dueProgram(times(400, ";"), 1);
        dueProgram("{" + times(399, "("), 12);
        dueProgram(times(400, "a"), 1);
        dueProgram("a:=" + times(397, "9"), 4);
    }

    private static void promise6Conditions() {
        promise = 6;
        due("skip", desk("skip").conditions(), 1);
        due("a cut", desk("{a=b}").conditions(), 2);
        due("assert and if", desk("assert a=b;if a=b then a:=1 else skip fi").conditions(), 1);
        due("a while", desk("while a<b inv a=b do skip od").conditions(), 3);
        due("a while with a variant", desk("while a<b inv a=b var a do skip od").conditions(), 4);
        due("within", desk("while a<b inv a=b var a do {a=b};if a=b then {a=1} else skip fi od").conditions(), 6);
        due("20 cuts", desk(times(19, "{a=b};") + "{a=b}").conditions(), 21);
        String loops = times(4, "while a<b inv a=b var a do ") + times(15, "{a=b};") + "{a=b}" + times(4, " od");
        TripleDesk most = desk(loops);
        due("as many as there can be", most.conditions(), 29);
        due("the last one", about(most, 28).startsWith("4 20 "), true);
        due("the last one", said(most, 28), "(!a=b|(a=b&a<z))");
        due("program", program(most, "skip"), 0);
        due("of the new program", most.conditions(), 1);
    }

    private static void promise7About() {
        promise = 7;
        TripleDesk desk = desk("a<=9", "a=9",
            "skip;while a<9 inv a<=9&b>=0 var b do a:=a+1;{a<=9};b:=b-1 od;{a=c}");
        due("conditions", desk.conditions(), 6);
        due("the first one", about(desk, 0), "0 0 2 3 1");
        due("kind 1", about(desk, 1), "1 2 1 5 -1");
        due("kind 2", about(desk, 2), "2 2 2 4 0");
        due("kind 3", about(desk, 3), "3 2 1 4 -1");
        due("the cut within", about(desk, 4), "4 4 3 4 1");
        due("the cut behind", about(desk, 5), "4 6 2 2 0");
        dueThrow("about(6, 0)", INDEX, () -> desk.about(6, 0));
        dueThrow("about(-1, 0)", INDEX, () -> desk.about(-1, 0));
        dueThrow("about(0, 5)", INDEX, () -> desk.about(0, 5));
        dueThrow("about(0, -1)", INDEX, () -> desk.about(0, -1));
        dueThrow("about(6, 5)", INDEX, () -> desk.about(6, 5));
        dueThrow("about(greatest)", INDEX, () -> desk.about(Integer.MAX_VALUE, 0));
        dueThrow("about(least)", INDEX, () -> desk.about(0, Integer.MIN_VALUE));

        due("true #", about(desk("a#0", "a<0", "skip"), 0), "0 0 2 2 1");
        due("false =", about(desk("a>=0", "a=0", "skip"), 0), "0 0 2 2 1");
        due("false #", about(desk("a=0", "a#0", "skip"), 0), "0 0 1 2 0");
        due("true =", about(desk("a=0&a=1", "0=1", "skip"), 0), "0 0 2 3 -1");
        due("! of =", about(desk("!a=0", "a<0", "skip"), 0), "0 0 2 2 1");
        due("true |", about(desk("a<0|a>0", "a<0", "skip"), 0), "0 0 2 3 1");
        due("true | with a #", about(desk("a=0|b#0", "0=1", "skip"), 0), "0 0 6 3 0");
        due("rows asked first", desk("a#0", "a<0", "skip").about(0, 2), 2);
        due("atoms asked first", desk("a#0", "a<0", "skip").about(0, 3), 2);
        due("the first row asked first", desk("a#0", "a<0", "skip").about(0, 4), 1);
        due("false &", about(desk("a>=0", "a>=0&a>0", "skip"), 0), "0 0 2 3 1");
        due("p before q", about(desk("(a=1|a=2)&(b=1|b=2)", "a=1|b=1", "skip"), 0), "0 0 16 6 15");
        due("both together", about(desk("(a=1|a=2)&(b=1|b=2)", "a=1&b=1", "skip"), 0), "0 0 16 6 7");
    }

    /** An assert of n atoms here has 2 to the n rows to be false; those of asserts in a row are added. */
    private static String asserts(int... atoms) {
        StringBuilder all = new StringBuilder();
        for (int n : atoms) {
            all.append("assert ").append(times(n - 1, "0=0|")).append("0=0;");
        }
        return all.append("skip").toString();
    }

    private static void promise7Edges() {
        promise = 7;
        TripleDesk most = desk("a#b&a#c&a#d", "0=0", asserts(8, 8, 6, 5, 4));
        post(most, "0<1");
        due("5000 rows", about(most, 0), "0 0 5000 35 -1");
        due("5000 rows", most.valid(0), 1);
        post(most, "0<0");
        due("5000 rows", about(most, 0), "0 0 5000 35 624");
        due("5000 rows", most.valid(0), 0);
        due("5000 rows", counters(most, 0), "-1 0 0 0 0 0 0 0 0 0");
        TripleDesk more = desk("a=a|a=a|a=a", "0=0&0<1", asserts(8, 8, 8, 8, 8, 8, 7));
        due("5001 rows", about(more, 0), "0 0 5001 60 -1");
        due("5001 rows", more.valid(0), -1);
        TripleDesk many = desk("0=0", times(7, "a=b|") + "a=b",
            times(4, "if a<b then a:=a+1 else b:=b+1 fi;") + "skip");
        due("far more rows", about(many, 0), "0 0 5001 159 -1");
    }

    private static void promise8Valid() {
        promise = 8;
        due("valid", desk("a>=0", "a>0", "a:=a+1").valid(0), 1);
        due("not valid", desk("a>=0", "a>1", "a:=a+1").valid(0), 0);
        due("integers", desk("a>0&a<1", "0=1", "skip").valid(0), 1);
        due("integers", desk("a>0&a<2", "a=1", "skip").valid(0), 1);
        due("integers", desk("a<b&b<c&c<a+3", "b=a+1&c=a+2", "skip").valid(0), 1);
        due("a circle", desk("a<b&b<c&c<d&d<e&e<f", "f>=a+5", "skip").valid(0), 1);
        due("a circle", desk("a<b&b<c&c<d&d<e&e<f", "f>a+5", "skip").valid(0), 0);
        due("numbers alone", desk("3<2", "0=1", "skip").valid(0), 1);
        due("numbers alone", desk("2<3", "-1<-2", "skip").valid(0), 0);
        due("the same variable", desk("a<a+1", "a-1<a", "skip").valid(0), 1);
        due("an assert", desk("a=1", "0=0", "assert a=1").valid(0), 1);
        due("an assert", desk("0=0", "0=0", "assert a=1").valid(0), 0);
        TripleDesk swap = desk("0=0", "a<=b", "if a>b then c:=a;a:=b;b:=c else skip fi");
        due("an exchange", swap.valid(0), 1);
        TripleDesk loop = desk("a<=9", "a=9", "while a<9 inv a<=9 var 9 do a:=a+1 od");
        due("the first one", loop.valid(0), 1);
        due("a variant that stays", loop.valid(1), 0);
        due("behind", loop.valid(2), 1);
        due("a variant of 9", loop.valid(3), 1);
        dueThrow("valid(4)", INDEX, () -> loop.valid(4));
        dueThrow("valid(-1)", INDEX, () -> loop.valid(-1));
        due("unknown", desk("0=0", times(7, "a=b|") + "a=b",
            times(3, "if a=b then a:=a+1 else b:=b+1 fi;") + "skip").valid(0), -1);
    }

    private static void promise9Proved() {
        promise = 9;
        TripleDesk desk = desk("a>=0&a<=9", "a=9", "while a<9 inv a<=9 do a:=a+1 od");
        due("all are valid", desk.proved(), true);
        due("POST", post(desk, "a=8"), 0);
        due("the last one is not", desk.proved(), false);
        due("POST", post(desk, "a>8"), 0);
        due("all are valid again", desk.proved(), true);
        due("PRE", pre(desk, "a<=10"), 0);
        due("the first one is not", desk.proved(), false);
        due("program", program(desk, "if a<9 then a:=9 else assert a<11 fi"), 0);
        due("an if", desk.proved(), true);
        due("program", program(desk, "while a<9 inv a<=10 var 8-0 do a:=a+1 od"), 25 + 1);
        due("a fault changes nothing", desk.proved(), true);
        due("program", program(desk, "while a<9 inv a<=10&b=9 var b do a:=a+1 od"), 0);
        due("a variant that stays", desk.proved(), false);
        TripleDesk unknown = desk("a=a|a=a|a=a", "0=0&0<1", asserts(8, 8, 8, 8, 8, 8, 7));
        due("unknown", unknown.proved(), false);
    }

    private static void promise10Counter() {
        promise = 10;
        due("all 0", counters(desk("0=0", "0=1", "skip"), 0), "0 0 0 0 0 0 0 0 0 0");
        due("a>5", counters(desk("a>5", "0=1", "skip"), 0), "6 6 6 6 6 6 6 6 6 6");
        due("a<5", counters(desk("a<5", "0=1", "skip"), 0), "0 0 0 0 0 0 0 0 0 0");
        due("a<-5", counters(desk("a<-5", "0=1", "skip"), 0), "-6 0 0 0 0 0 0 0 0 0");
        due("a<b&b<c", counters(desk("a<b&b<c", "0=1", "skip"), 0), "-2 -1 0 0 0 0 0 0 0 0");
        due("a=b+3", counters(desk("a=b+3", "0=1", "skip"), 0), "0 -3 0 0 0 0 0 0 0 0");
        due("a=3&b=-4", counters(desk("a=3&b=-4", "0=1", "skip"), 0), "3 -4 3 3 3 3 3 3 3 3");
        due("the first row", counters(desk("a#b", "0=1", "skip"), 0), "-1 0 0 0 0 0 0 0 0 0");
        due("the second row", counters(desk("a#b&a>=b", "0=1", "skip"), 0), "0 -1 0 0 0 0 0 0 0 0");
        due("put terms", counters(desk("0=0", "a<=b", "a:=c+2;b:=c"), 0), "0 0 0 0 0 0 0 0 0 0");
        due("far", counters(desk("a<b-999&b<c-999&c<d-999", "0=1", "skip"), 0), "-3000 -2000 -1000 0 0 0 0 0 0 0");
        TripleDesk loop = desk("a<=9", "a=9", "while a<9 inv a<=9&x<y var b do a:=a+1 od");
        due("ghosts", counters(loop, 1), "0 0 0 0 0 0 0 -1 0 0");
        due("ghosts", loop.valid(3), 0);
        due("ghosts", counters(loop, 3), "0 -1 0 0 0 0 0 -1 0 0");
        dueThrow("valid", STATE, () -> loop.counter(2, 0));
        dueThrow("valid, and no such variable", STATE, () -> loop.counter(2, 10));
        dueThrow("no such condition", INDEX, () -> loop.counter(4, 0));
        dueThrow("no such condition", INDEX, () -> loop.counter(-1, 0));
        dueThrow("no such variable", INDEX, () -> loop.counter(1, 10));
        dueThrow("no such variable", INDEX, () -> loop.counter(1, -1));
        TripleDesk unknown = desk("a=a|a=a|a=a", "0=0&0<1", asserts(8, 8, 8, 8, 8, 8, 7));
        dueThrow("unknown", STATE, () -> unknown.counter(0, 0));
        dueThrow("unknown, and no such variable", STATE, () -> unknown.counter(0, 10));
        dueThrow("no such condition", INDEX, () -> unknown.counter(1, 0));
        post(unknown, "0=1");
        pre(unknown, "a=3");
        program(unknown, "skip");
        due("decided anew", counters(unknown, 0), "3 3 3 3 3 3 3 3 3 3");
    }

    private static void dueSaid(String want, String post, String program) {
        due("say of " + program, said(desk("0=0", post, program), 0), "(!0=0|" + want + ")");
    }

    private static void promise11Say() {
        promise = 11;
        dueSaid("a=b", "a=b", "skip");
        dueSaid("((a<b&c<=d)|(e>=f&!a>b))", "a<b&c<=d|e>=f&!a>b", "skip");
        dueSaid("c=b", "a=b", "a:=c");
        dueSaid("c+3=b-2", "a=b-2", "a:=c+3");
        dueSaid("c+5=b", "a+2=b", "a:=c+3");
        dueSaid("c=b", "a-3=b", "a:=c+3");
        dueSaid("c-1=b", "a-4=b", "a:=c+3");
        dueSaid("7=b", "a+2=b", "a:=5");
        dueSaid("-7=b", "a-2=b", "a:=-5");
        dueSaid("0=b", "a+5=b", "a:=-5");
        dueSaid("a+3=a+3", "a=a", "a:=a+1;a:=a+2");
        dueSaid("b=a", "a=b", "c:=a;a:=b;b:=c");
        dueSaid("b+1998=b+999", "a=b+999", "a:=b+999;a:=a+999");
        dueSaid("a+18981>b", "a>b", times(18, "a:=a+999;") + "a:=a+999");
        dueSaid("-19980>b", "a-999>b", "a:=-999;" + times(17, "a:=a-999;") + "a:=a-999");
        dueSaid("(a=1&(b=2&c=3))", "c=3", "assert a=1;assert b=2");
        dueSaid("(5=1&6=5)", "b=a", "a:=5;assert a=1;b:=6");
        dueSaid("((a<b&b=b)|(!a<b&a=b))", "a=b", "if a<b then a:=b else skip fi");
        dueSaid("((1<b&b=b+1)|(!1<b&1=b+1))", "a=c", "a:=1;if a<b then a:=b else skip fi;c:=b+1");
        dueSaid("a=w", "a=b", "{a=w};b:=a");
        dueSaid("c+1=z-2", "a=b", "a:=c+1;{a=z-2};b:=a");
        dueSaid("c<=9", "a=b", "a:=c;while a<9 inv a<=9 do a:=a+1 od;b:=a");
        dueSaid("(!a#b|!!(c=d|e=f))", "!a#b|!!(c=d|e=f)", "skip");
        TripleDesk desk = desk("a=a", "b=b", "skip");
        due("how many bytes", desk.say(0), 10);
        dueThrow("say(1)", INDEX, () -> desk.say(1));
        dueThrow("say(-1)", INDEX, () -> desk.say(-1));
    }

    private static void promise11Claims() {
        promise = 11;
        TripleDesk plain = desk("a=1", "a=2", "while a<b inv a=3 do a:=a+1 od;a:=a-1");
        due("PRE -> I", said(plain, 0), "(!a=1|a=3)");
        due("(I & B) -> WP(body, I)", said(plain, 1), "(!(a=3&a<b)|a+1=3)");
        due("(I & !B) -> Q", said(plain, 2), "(!(a=3&!a<b)|a-1=2)");

        TripleDesk measured = desk("a=1", "a=2", "while a<b inv a=3|x=1 var b-1 do a:=a+1;b:=b-2 od");
        due("body", said(measured, 1), "(!(((a=3|x=1)&a<b)&b-1=w)|((a+1=3|x=1)&b-3<w))");
        due("behind", said(measured, 2), "(!((a=3|x=1)&!a<b)|a=2)");
        due("variant", said(measured, 3), "(!((a=3|x=1)&a<b)|b-1>=0)");

        TripleDesk cuts = desk("a=1", "a=2", "if a=b then {a=3};a:=4 else b:=5;{b=6} fi;a:=a+1");
        due("an if with cuts", said(cuts, 0), "(!a=1|((a=b&a=3)|(!a=b&5=6)))");
        due("within an if", said(cuts, 1), "(!a=3|5=2)");
        due("behind an if", said(cuts, 2), "(!b=6|a+1=2)");

        TripleDesk nested = desk("a=1", "a=2",
            "while a<9 inv a<8 var a do while b<9 inv b<8 do {c=1} od;a:=a+1;"
            + "while d<9 inv d<8 var 5 do if d=1 then {e=1} else d:=2 fi od od");
        due("conditions", nested.conditions(), 11);
        due("outer body", said(nested, 1), "(!((a<8&a<9)&a=w)|b<8)");
        due("outer behind", said(nested, 2), "(!(a<8&!a<9)|a=2)");
        due("outer variant", said(nested, 3), "(!(a<8&a<9)|a>=0)");
        due("first body", said(nested, 4), "(!(b<8&b<9)|c=1)");
        due("first behind", said(nested, 5), "(!(b<8&!b<9)|d<8)");
        due("cut in the first", said(nested, 6), "(!c=1|b<8)");
        due("second body", said(nested, 7), "(!((d<8&d<9)&5=x)|((d=1&e=1)|(!d=1&(2<8&5<x))))");
        due("second behind", said(nested, 8), "(!(d<8&!d<9)|(a<8&a<w))");
        due("second variant", said(nested, 9), "(!(d<8&d<9)|5>=0)");
        due("cut in the second", said(nested, 10), "(!e=1|(d<8&5<x))");
    }

    private static void promise12Out() {
        promise = 12;
        TripleDesk desk = new TripleDesk();
        dueThrow("nothing came out", INDEX, () -> desk.out(0));
        program(desk, "assert a=1");
        dueThrow("nothing came out", INDEX, () -> desk.out(0));
        due("say", said(desk, 0), "(!0=0|(a=1&0=0))");
        due("byte 0", desk.out(0), (int) '(');
        due("byte 15", desk.out(15), (int) ')');
        dueThrow("out(16)", INDEX, () -> desk.out(16));
        dueThrow("out(-1)", INDEX, () -> desk.out(-1));
        dueThrow("out(least)", INDEX, () -> desk.out(Integer.MIN_VALUE));
        dueThrow("out(greatest)", INDEX, () -> desk.out(Integer.MAX_VALUE));
        dueThrow("say(9)", INDEX, () -> desk.say(9));
        due("a throw changes nothing", desk.out(15), (int) ')');
        pre(desk, "c=d");
        post(desk, "c=d");
        program(desk, "skip");
        desk.valid(0);
        due("it stays", desk.out(10), (int) '&');
        due("it stays", desk.out(15), (int) ')');
        due("say", said(desk, 0), "(!c=d|c=d)");
        dueThrow("it is shorter now", INDEX, () -> desk.out(10));
    }

    private static void promise13Start() {
        promise = 13;
        TripleDesk desk = new TripleDesk();
        for (int v = 0; v < 6; v++) {
            desk.start(v, 10 * v + 1);
        }
        due("values", values(desk), "1 11 21 31 41 51");
        desk.start(0, Integer.MIN_VALUE);
        desk.start(5, Integer.MAX_VALUE);
        due("values", values(desk), "-2147483648 11 21 31 41 2147483647");
        dueThrow("start(6, 1)", INDEX, () -> {
            desk.start(6, 1);
            return 0;
        });
        dueThrow("start(-1, 1)", INDEX, () -> {
            desk.start(-1, 1);
            return 0;
        });
        due("a throw changes nothing", values(desk), "-2147483648 11 21 31 41 2147483647");
        program(desk, "a:=b");
        due("values are 0", values(desk), "0 0 0 0 0 0");
        desk.start(1, -7);
        due("run", desk.run(1), 0);
        due("values", values(desk), "-7 -7 0 0 0 0");
    }

    private static void promise14Run() {
        promise = 14;
        TripleDesk desk = desk("a:=b+1;c:=-3;d:=a-2;if a>b then e:=1 else f:=1 fi;skip;{0=1};assert a=b+1");
        desk.start(1, 10);
        due("run", desk.run(8), 0);
        due("values", values(desk), "11 10 -3 9 1 0");
        due("from the values that there are", desk.run(2000), 0);
        due("values", values(desk), "11 10 -3 9 1 0");
        dueThrow("run(-1)", ARGUMENT, () -> desk.run(-1));
        dueThrow("run(2001)", ARGUMENT, () -> desk.run(2001));
        dueThrow("run(least)", ARGUMENT, () -> desk.run(Integer.MIN_VALUE));
        due("a throw changes nothing", values(desk), "11 10 -3 9 1 0");

        due("program", program(desk, "a:=1;assert b=1|b=2&c=3;a:=2"), 0);
        due("fails", desk.run(3), 2);
        due("where it failed", values(desk), "1 0 0 0 0 0");
        desk.start(1, 1);
        due("ends", desk.run(3), 0);
        due("values", values(desk), "2 1 0 0 0 0");
        desk.start(1, 2);
        due("fails", desk.run(2), 2);
        due("stops before the assert", desk.run(1), 1);
        desk.start(2, 3);
        due("ends", desk.run(3), 0);

        due("program", program(desk, "while a<5 inv 0=1 var 0 do a:=a+1;if a>=3 then b:=b+1 else skip fi od"), 0);
        due("a while", desk.run(100), 0);
        due("values", values(desk), "5 3 0 0 0 0");
        due("an endless while", program(desk, "while 0=0 inv 0=0 do a:=a+999 od"), 0);
        due("stops", desk.run(2000), 1);
        due("value", desk.value(0) % 999, 0L);
        due("a while in a while", program(desk,
            "while a<3 inv 0=0 do b:=0;while b<4 inv 0=0 do b:=b+1;c:=c+1 od;a:=a+1 od;d:=7"), 0);
        due("ends", desk.run(100), 0);
        due("values", values(desk), "3 4 12 7 0 0");

        due("far beyond int", program(desk, "while a>0 inv 0=0 do a:=a+999 od"), 0);
        desk.start(0, Integer.MAX_VALUE);
        due("stops", desk.run(2000), 1);
        due("far beyond int", desk.value(0) > Integer.MAX_VALUE, true);
    }

    /** The least number of steps with which the program ends. */
    private static int stepsOf(String program) {
        TripleDesk desk = desk(program);
        int steps = 0;
        while (steps < 60 && desk.run(steps) == 1) {
            steps++;
            for (int v = 0; v < 6; v++) {
                desk.start(v, 0);
            }
        }
        return steps;
    }

    private static void promise14Steps() {
        promise = 14;
        due("skip", stepsOf("skip"), 1);
        due("a cut", stepsOf("{0=1}"), 1);
        due("an assert", stepsOf("assert 0=0"), 1);
        due("three", stepsOf("a:=1;skip;{a=1}"), 3);
        due("an if and what is in it", stepsOf("if a=0 then skip;skip else skip fi"), 3);
        due("an if and what is in it", stepsOf("if a=1 then skip;skip else skip fi"), 2);
        due("a while and its look", stepsOf("while a<0 inv 0=0 do a:=a+1 od"), 2);
        due("a while and its looks", stepsOf("while a<1 inv 0=0 do a:=a+1 od"), 4);
        due("a while and its looks", stepsOf("while a<3 inv 0=0 do a:=a+1 od"), 8);
        due("a while behind", stepsOf("skip;while a<1 inv 0=0 do a:=a+1 od;skip"), 6);
        due("a while in a while",
            stepsOf("while a<2 inv 0=0 do a:=a+1;while b<a inv 0=0 do b:=b+1 od od"), 1 + 3 + 2 * (1 + 1 + 2 + 1));

        TripleDesk desk = desk("while a<9 inv a<=9 do a:=a+1 od");
        desk.start(0, 3);
        due("stops", desk.run(3), 1);
        due("one time through", desk.value(0), 4L);
        due("run(0) stops", desk.run(0), 1);
        due("run(0) changes nothing", desk.value(0), 4L);
        due("a run begins anew", desk.run(3), 1);
        due("a run begins anew", desk.value(0), 5L);
    }

    private static void promise15Value() {
        promise = 15;
        TripleDesk desk = new TripleDesk();
        due("values", values(desk), "0 0 0 0 0 0");
        dueThrow("value(6)", INDEX, () -> desk.value(6));
        dueThrow("value(-1)", INDEX, () -> desk.value(-1));
        dueThrow("value(9)", INDEX, () -> desk.value(9));
        desk.start(3, -5);
        due("value", desk.value(3), -5L);
        program(desk, "f:=-999;e:=f-999;a:=e");
        due("value", desk.value(3), 0L);
        due("run", desk.run(2), 1);
        due("values", values(desk), "0 0 0 0 -1998 -999");
        due("run", desk.run(3), 0);
        due("values", values(desk), "-1998 0 0 0 -1998 -999");
    }

    private static void promise16Holds() {
        promise = 16;
        TripleDesk desk = new TripleDesk();
        due("PRE at first", desk.holds(0), true);
        due("POST at first", desk.holds(1), true);
        dueThrow("holds(2)", INDEX, () -> desk.holds(2));
        dueThrow("holds(-1)", INDEX, () -> desk.holds(-1));
        String[] ops = {"<", "<=", "=", "#", ">=", ">"};
        boolean[][] truths = {
            {true, true, false, true, false, false},
            {false, true, true, false, true, false},
            {false, false, false, true, true, true}};
        for (int i = 0; i < ops.length; i++) {
            pre(desk, "a" + ops[i] + "5");
            post(desk, "!b-1" + ops[i] + "-1");
            for (int value = 4; value <= 6; value++) {
                desk.start(0, value);
                desk.start(1, value - 5);
                due(value + ops[i] + 5, desk.holds(0), truths[value - 4][i]);
                due("!" + value + ops[i] + 5, desk.holds(1), !truths[value - 4][i]);
            }
        }
        pre(desk, "a=1&b=2|!(c=3|d=4)&e=5");
        for (int v = 0; v < 6; v++) {
            desk.start(v, v + 1);
        }
        due("a=1&b=2", desk.holds(0), true);
        desk.start(1, 7);
        due("!(c=3|d=4)", desk.holds(0), false);
        desk.start(2, 7);
        due("!(c=3|d=4)", desk.holds(0), false);
        desk.start(3, 7);
        due("!(c=3|d=4)&e=5", desk.holds(0), true);
        desk.start(4, 7);
        due("e=5", desk.holds(0), false);
        due("of the values now", post(desk, "a=b"), 0);
        due("of the values now", program(desk, "a:=1"), 0);
        due("of the values now", desk.holds(1), true);
        due("of the values now", desk.run(1), 0);
        due("of the values now", desk.holds(1), false);
    }
}
