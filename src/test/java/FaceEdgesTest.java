/** The edges that the promises 1 to 15 name: each sentence has a test of its own. */
public final class FaceEdgesTest {
    private static final int DONE = HostedScript.DONE;
    private static final int WRONG = HostedScript.WRONG;
    private static final int NAME = HostedScript.NAME;
    private static final int TYPE = HostedScript.TYPE;
    private static final int ATTR = HostedScript.ATTR;
    private static final int ZERO = HostedScript.ZERO;
    private static final int DEPTH = HostedScript.DEPTH;
    private static final int MEMORY = HostedScript.MEMORY;
    private static final int RAISED = HostedScript.RAISED;
    private static final int STEPS = HostedScript.STEPS;
    private static final int REFUSED = HostedScript.REFUSED;

    /** Numbers that are no letter, no class and no place. */
    private static final int[] OUT_OF_RANGE = {-1, -2, -26, 26, 27, 100, 1000, Integer.MIN_VALUE, Integer.MAX_VALUE};
    private static final String METHODS = "class A:\n v=3\n def f(s,x):\n  return x\n def g(s):\n  pass\n def r(s,x):\n  raise x\n"
        + " def z(s,x):\n  return 1/x\na=A()\n";

    public static void main(String[] args) {
        constants();
        objectsAreClamped();
        stepsAreClamped();
        depthIsClamped();
        putAddsTokens();
        putIsRefused();
        putAnswersBoth();
        runTakesTheChunk();
        wrongChunks();
        keptChunks();
        endsOfRuns();
        callIsRefused();
        callOfAnUnsetVariable();
        callsAsExpressions();
        endsOfCalls();
        pendingChunkStays();
        resultOfCalls();
        resultOfRaised();
        resultElse();
        resultAtFirst();
        placeAtFirst();
        placeOfErrors();
        placeIfDone();
        linesKept();
        nextLineNumber();
        variables();
        attributes();
        entries();
        orders();
        letters();
        printCount();
        lastPrints();
        liveNow();
        fiveHundredAndTwelveCalls();
        Script.end();
    }

    private static void constants() {
        Script.sentence("DONE = 0 .. STEPS = 9, REFUSED = -1");
        int[] kinds = {DONE, WRONG, NAME, TYPE, ATTR, ZERO, DEPTH, MEMORY, RAISED, STEPS};
        for (int at = 0; at < kinds.length; at++) {
            Script.due("constant " + at, kinds[at], at);
        }
        Script.due("REFUSED", REFUSED, -1);
    }

    // ---- Promise 1 ----

    private static void objectsAreClamped() {
        Script.sentence("objects: live objects at most, clamped to 2 .. 8");
        int[][] cases = {{Integer.MIN_VALUE, 2}, {-1, 2}, {0, 2}, {1, 2}, {2, 2}, {3, 3}, {4, 4}, {5, 5}, {6, 6}, {7, 7}, {8, 8}, {9,
            8}, {100, 8}, {Integer.MAX_VALUE, 8}};
        for (int[] c : cases) {
            Script s = new Script(c[0], 200, 6);
            s.runs("a=none\nwhile 1:\n b=X()\n b.n=a\n a=b", MEMORY, 3);
            Script.due("live with " + c[0], s.host.live(), c[1]);
        }
    }

    private static void stepsAreClamped() {
        Script.sentence("steps: steps a run or host call, clamped to 20 .. 200");
        int[][] cases = {{Integer.MIN_VALUE, 20}, {-1, 20}, {0, 20}, {19, 20}, {20, 20}, {21, 21}, {100, 100}, {199, 199}, {200, 200},
            {201, 200}, {Integer.MAX_VALUE, 200}};
        for (int[] c : cases) {
            Script s = new Script(8, c[0], 6);
            // A turn takes two steps, the last look at the condition one.
            s.runs("class A:\n def f(s,x):\n  while x:\n   x=x-1\n def g(s,x):\n  while x:\n   x=x-1\n  pass\na=A()", DONE, 0);
            int turns = (c[1] - 1) / 2;
            boolean odd = c[1] % 2 == 1;
            s.calls('a', odd ? 'f' : 'g', turns, DONE, Script.NONE, 0);
            s.calls('a', odd ? 'g' : 'f', turns + (odd ? 0 : 1), STEPS, 0, odd ? 8 : 3);
            s.runs("n=" + (c[1] - 2) / 2 + "\nwhile n:\n n=n-1" + (odd ? "\npass" : ""), DONE, 0);
            s.runs("n=" + (c[1] - 2) / 2 + "\nwhile n:\n n=n-1\npass" + (odd ? "\npass" : ""), STEPS, s.host.lines() + (odd ? 5 : 4));
        }
    }

    private static void depthIsClamped() {
        Script.sentence("depth: active calls at most, clamped to 2 .. 6");
        int[][] cases = {{Integer.MIN_VALUE, 2}, {-1, 2}, {0, 2}, {1, 2}, {2, 2}, {3, 3}, {4, 4}, {5, 5}, {6, 6}, {7, 6}, {100, 6},
            {Integer.MAX_VALUE, 6}};
        for (int[] c : cases) {
            Script s = new Script(8, 200, c[0]);
            s.runs("class A:\n def f(s,x):\n  s.n=x\n  return s.f(x+1)\na=A()\na.f(1)", DEPTH, 4);
            Script.due("calls of a run with " + c[0], s.attribute('a', 'n'), Script.number(c[1]));
            s.calls('a', 'f', 1, DEPTH, 0, 4);
            Script.due("calls of the host with " + c[0], s.attribute('a', 'n'), Script.number(c[1]));
        }
    }

    // ---- Promise 2 ----

    private static void putAddsTokens() {
        Script.sentence("Adds up to four tokens to the chunk, those that are not 0, in order.");
        Script s = new Script();
        Script.due("none", s.host.put(0, 0, 0, 0), 0);
        Script.due("four", s.host.put(11, 1100, 30, 1010), 4);
        Script.due("the first", s.host.put(30, 0, 0, 0), 5);
        Script.due("the second", s.host.put(0, 1020, 0, 0), 6);
        Script.due("the third", s.host.put(0, 0, 32, 0), 7);
        Script.due("the last", s.host.put(0, 0, 0, 1007), 8);
        Script.due("run", s.host.run(), DONE);
        Script.due("100-10-20/7", s.host.printed(0), 88);
        Script.due("any token is taken", s.host.put(-1, Integer.MIN_VALUE, Integer.MAX_VALUE, 50), 12);
        Script.due("run of them", s.host.run(), WRONG);
    }

    private static void putIsRefused() {
        Script.sentence("If kept and pending tokens would be more than 400: REFUSED, nothing changes.");
        Script s = new Script();
        for (int at = 0; at < 99; at++) {
            s.host.put(40, 40, 40, 40);
        }
        Script.due("396", s.host.put(0, 0, 0, 0), 396);
        Script.due("397", s.host.put(11, 0, 0, 0), 397);
        Script.due("401 with four", s.host.put(1001, 29, 1001, 40), REFUSED);
        Script.due("nothing has changed", s.host.put(0, 0, 0, 0), 397);
        Script.due("400 with three", s.host.put(1001, 29, 0, 1004), 400);
        Script.due("401 with one", s.host.put(0, 0, 40, 0), REFUSED);
        Script.due("401 with another", s.host.put(40, 0, 0, 0), REFUSED);
        Script.due("no token more is no token too many", s.host.put(0, 0, 0, 0), 400);
        Script.due("run", s.host.run(), DONE);
        Script.due("only what was taken is run", s.host.printed(0), 5);
        Script.due("kept tokens count", s.host.put(10, 0, 0, 0), REFUSED);
        Script.due("place stays", s.host.place(), 0);
        // Kept and pending together.
        Script t = new Script();
        t.runs("\n".repeat(200), DONE, 0);
        for (int at = 0; at < 50; at++) {
            t.host.put(40, 40, 40, 40 + at % 2);
        }
        Script.due("200 and 200", t.host.put(0, 0, 0, 0), 400);
        Script.due("one more", t.host.put(40, 0, 0, 0), REFUSED);
        // A wrong chunk makes room again.
        Script u = new Script();
        for (int at = 0; at < 100; at++) {
            u.host.put(1, 1, 1, 1);
        }
        Script.due("full", u.host.put(10, 0, 0, 0), REFUSED);
        Script.due("wrong", u.host.run(), WRONG);
        Script.due("room again", u.host.put(10, 0, 0, 0), 1);
        Script.due("and right", u.host.run(), DONE);
    }

    private static void putAnswersBoth() {
        Script.sentence("Answers kept and pending tokens together.");
        Script s = new Script();
        Script.due("pending", s.host.put(100, 26, 1001, 40), 4);
        Script.due("more", s.host.put(10, 0, 0, 0), 5);
        s.host.run();
        Script.due("kept", s.host.put(0, 0, 0, 0), 5);
        Script.due("both", s.host.put(1, 0, 1, 0), 7);
        Script.due("wrong", s.host.run(), WRONG);
        Script.due("dropped", s.host.put(0, 0, 0, 0), 5);
        s.runs("q", NAME, 3);
        Script.due("kept though it ended in an error", s.host.put(0, 0, 0, 0), 6);
        s.runs("while 1:\n pass", STEPS, 4);
        Script.due("kept though it took too many steps", s.host.put(0, 0, 0, 0), 11);
    }

    // ---- Promise 3 ----

    private static void runTakesTheChunk() {
        Script.sentence("Takes the pending chunk.");
        Script s = new Script();
        s.prints("print 1", 1);
        // Nothing is pending any more: an empty chunk with its one blank line.
        Script.due("run of nothing", s.host.run(), DONE);
        Script.due("nothing printed again", s.host.prints(), 1);
        Script.due("a blank line", s.host.lines(), 2);
        s.runs("1 1", WRONG, 3);
        Script.due("run after a wrong chunk", s.host.run(), DONE);
        s.runs("q", NAME, 4);
        Script.due("run after an error", s.host.run(), DONE);
        Script.due("place", s.host.place(), 0);
    }

    private static void wrongChunks() {
        Script.sentence("Wrong: its tokens are dropped, WRONG, place() is the first wrong line.");
        Script s = new Script();
        s.runs("a=1", DONE, 0);
        s.runs("a=2\nprint 3\nclass A:\n pass\nb=X()\n1 1\n2 2", WRONG, 7);
        Script.due("tokens", s.host.put(0, 0, 0, 0), 3);
        Script.due("lines", s.host.lines(), 1);
        Script.due("a", s.variable('a'), Script.number(1));
        Script.due("prints", s.host.prints(), 0);
        Script.due("A", s.named('A'), -1);
        Script.due("live", s.host.live(), 0);
        Script.due("result", s.host.result(), 0);
        s.runs("try:\n pass", WRONG, 4);
        s.prints("print a+6", 7);
        // Nothing of many wrong chunks is left in the way of a right one.
        for (int at = 0; at < 12; at++) {
            s.runs("b=1+1\n".repeat(60) + "1 1", WRONG, 63);
        }
        s.prints("b=1+1\n".repeat(40) + "print b", 2);
    }

    private static void keptChunks() {
        Script.sentence("Else it is kept (tokens and lines count on) and run");
        Script s = new Script();
        s.runs("a=1\nb=2", DONE, 0);
        Script.due("tokens", s.host.put(0, 0, 0, 0), 7);
        Script.due("lines", s.host.lines(), 2);
        s.runs("q\nc=3", NAME, 3);
        Script.due("more tokens", s.host.put(0, 0, 0, 0), 12);
        Script.due("more lines", s.host.lines(), 4);
        s.runs("class A:\n def f(s,x):\n  return x*n\nn=3\na=A()", DONE, 0);
        // Its methods are there for later chunks and calls, and have their old line numbers.
        s.prints("print a.f(4)", 12);
        s.runs("n=none", DONE, 0);
        s.calls('a', 'f', 4, TYPE, 0, 7);
    }

    private static void endsOfRuns() {
        Script.sentence("DONE, or the error's kind NAME .. RAISED, or STEPS.");
        String before = "class A:\n def f(s,x):\n  return s.f(x)\na=A()\nn=none";
        String[] texts = {"pass", "", "q", "n+1", "a.q", "1/0", "a.f(1)", "b=X()\nb.a=1\nb.b=1\nb.c=1\nb.d=1\nb.e=1", "raise 1",
            "while 1:\n pass", "1 1"};
        int[] answers = {DONE, DONE, NAME, TYPE, ATTR, ZERO, DEPTH, MEMORY, RAISED, STEPS, WRONG};
        for (int at = 0; at < texts.length; at++) {
            Script s = new Script();
            s.runs(before, DONE, 0);
            Script.due("run of <" + texts[at] + ">", s.run(texts[at]), answers[at]);
        }
    }

    // ---- Promise 4 ----

    private static void callIsRefused() {
        Script.sentence("variable and method 0 .. 25 for a .. z, else REFUSED and nothing changes");
        Script s = new Script();
        s.runs("class A:\n def a(s,x):\n  print x\n  return x+1\n def z(s,x):\n  print x\n  return x+2\na=A()\nz=a", DONE, 0);
        s.calls('a', 'a', 1, DONE, Script.number(2), 0);
        s.calls('a', 'z', 1, DONE, Script.number(3), 0);
        s.calls('z', 'a', 1, DONE, Script.number(2), 0);
        s.calls('z', 'z', 5, DONE, Script.number(7), 0);
        s.put("b=4");
        for (int bad : OUT_OF_RANGE) {
            Script.due("variable " + bad, s.host.call(bad, 0, 1), REFUSED);
            Script.due("method " + bad, s.host.call(0, bad, 1), REFUSED);
            Script.due("both " + bad, s.host.call(bad, bad, 1), REFUSED);
            // Refused before the unset variable is looked at.
            Script.due("method " + bad + " of an unset variable", s.host.call(2, bad, 1), REFUSED);
        }
        Script.due("result", s.host.result(), Script.number(7));
        Script.due("place", s.host.place(), 0);
        Script.due("prints", s.host.prints(), 4);
        Script.due("lines", s.host.lines(), 9);
        Script.due("chunk", s.host.run(), DONE);
        Script.due("b", s.variable('b'), Script.number(4));
        s.runs("raise 6", RAISED, 11);
        Script.due("refused", s.host.call(26, 0, 1), REFUSED);
        Script.due("result of RAISED stays", s.host.result(), Script.number(6));
        Script.due("place of RAISED stays", s.host.place(), 11);
    }

    private static void callOfAnUnsetVariable() {
        Script.sentence("The variable unset: NAME");
        Script s = new Script();
        for (char name = 'a'; name <= 'z'; name++) {
            s.calls(name, 'h', 1, NAME, 0, 0);
        }
        s.runs("x=X()\nn=none\nz=0", DONE, 0);
        s.calls('x', 'h', 4, DONE, Script.number(8), 0);
        s.calls('n', 'h', 4, TYPE, 0, 0);
        s.calls('z', 'h', 4, TYPE, 0, 0);
        s.calls('a', 'h', 4, NAME, 0, 0);
    }

    private static void callsAsExpressions() {
        Script.sentence("else as P . NAME ( E ), errors of the call itself at line 0");
        Script s = new Script();
        s.runs(METHODS + "b=1\nc=none\nd=A()\nd.f=1\nd.q=none", DONE, 0);
        s.calls('b', 'f', 1, TYPE, 0, 0);
        s.calls('c', 'f', 1, TYPE, 0, 0);
        s.calls('d', 'f', 1, TYPE, 0, 0);
        s.calls('d', 'q', 1, TYPE, 0, 0);
        s.calls('a', 'q', 1, ATTR, 0, 0);
        s.calls('a', 'v', 1, TYPE, 0, 0);
        s.calls('a', 'g', 1, TYPE, 0, 0);
        s.calls('a', 't', 1, ATTR, 0, 0);
        s.calls('a', 'f', 1, DONE, Script.number(1), 0);
        // An error inside the method is at its line.
        s.calls('a', 'z', 0, ZERO, 0, 10);
        s.calls('a', 'r', 0, RAISED, Script.number(0), 8);
    }

    private static void endsOfCalls() {
        Script.sentence("Answers DONE, or NAME .. STEPS.");
        Script s = new Script(2, 20, 2);
        s.runs("class A:\n def a(s,x):\n  return x\n def b(s,x):\n  return q\n def c(s,x):\n  return none+x\n def d(s,x):\n  return s.q\n"
            + " def e(s,x):\n  return x/0\n def f(s,x):\n"
            + "  return s.f(x)\n def g(s,x):\n  return X()==X()\n def h(s,x):\n  raise x\n def i(s):\n  pass\n def j(s,x):\n  while 1:\n"
            + "   pass\n", DONE, 0);
        s.runs("a=A()", DONE, 0);
        int[] answers = {DONE, NAME, TYPE, ATTR, ZERO, DEPTH, MEMORY, RAISED, TYPE, STEPS};
        for (int at = 0; at < answers.length; at++) {
            Script.due("call of method " + at, s.host.call(0, at, 5), answers[at]);
        }
        // Each call has all its steps, and the arguments are any ints.
        for (int arg : new int[] {0, -1, Integer.MIN_VALUE, Integer.MAX_VALUE, 1000}) {
            s.calls('a', 'a', arg, DONE, Script.number(arg), 0);
            s.calls('a', 'j', arg, STEPS, 0, 21);
        }
    }

    private static void pendingChunkStays() {
        Script.sentence("The pending chunk stays.");
        Script s = new Script();
        s.runs(METHODS, DONE, 0);
        int kept = s.host.put(0, 0, 0, 0);
        Script.due("half a chunk", s.host.put(11, 1003, 29, 0), kept + 3);
        s.calls('a', 'f', 1, DONE, Script.number(1), 0);
        s.calls('a', 'z', 0, ZERO, 0, 10);
        s.calls('q', 'f', 1, NAME, 0, 0);
        Script.due("lines", s.host.lines(), 12);
        Script.due("the rest", s.host.put(1004, 0, 0, 0), kept + 4);
        Script.due("run", s.host.run(), DONE);
        Script.due("3+4", s.host.printed(0), 7);
        Script.due("once", s.host.prints(), 1);
    }

    // ---- Promise 5 ----

    private static void resultOfCalls() {
        Script.sentence("Of the last run, or host call that was not REFUSED: the value as a long that a host call answered, if DONE");
        Script s = new Script();
        s.runs(METHODS + "class B:\n def n(s,x):\n  return none\n def p(s,x):\n  pass\n def o(s,x):\n  return s\n def q(s,x):\n"
            + "  return X()\nb=B()", DONE, 0);
        for (int arg : new int[] {0, 1, -1, Integer.MIN_VALUE, Integer.MAX_VALUE}) {
            s.calls('a', 'f', arg, DONE, Script.number(arg), 0);
        }
        s.calls('b', 'n', 1, DONE, Script.NONE, 0);
        s.calls('b', 'p', 1, DONE, Script.NONE, 0);
        s.calls('b', 'o', 1, DONE, Script.object(2), 0);
        s.calls('b', 'q', 1, DONE, Script.object(0), 0);
        s.host.call(-1, 0, 0);
        Script.due("after a refused call", s.host.result(), Script.object(0));
        s.host.put(10, 0, 0, 0);
        Script.due("after put", s.host.result(), Script.object(0));
        s.host.run();
        Script.due("after a run", s.host.result(), 0);
    }

    private static void resultOfRaised() {
        Script.sentence("for RAISED the code as an int's long");
        Script s = new Script();
        s.runs(METHODS + "m=2147482647+1001", DONE, 0);
        for (int arg : new int[] {0, 1, -1, 8, Integer.MIN_VALUE, Integer.MAX_VALUE}) {
            s.calls('a', 'r', arg, RAISED, Script.number(arg), 8);
        }
        s.runs("raise 0", RAISED, 13);
        Script.due("0", s.host.result(), Script.number(0));
        s.runs("raise m", RAISED, 14);
        Script.due("the least", s.host.result(), Script.number(Integer.MIN_VALUE));
        s.runs("try:\n raise 1\nexcept e:\n raise e+1", RAISED, 18);
        Script.due("of the one that nothing caught", s.host.result(), Script.number(2));
    }

    private static void resultElse() {
        Script.sentence("result: else 0");
        String[] texts = {"pass", "", "q", "none+1", "a.q", "1/0", "a.y(1)", "a.w=1", "while 1:\n pass", "1 1", "if 1:",
            "try:\n raise 1\nexcept e:\n pass"};
        for (String text : texts) {
            Script s = new Script();
            s.runs("class A:\n def y(s,x):\n  return s.y(x)\n def f(s,x):\n  return x\na=A()\na.a=1\na.b=1\na.c=1\na.d=1", DONE, 0);
            s.calls('a', 'f', 3, DONE, Script.number(3), 0);
            s.run(text);
            Script.due("result of <" + text + ">", s.host.result(), 0);
            s.run("raise 5");
            s.run(text);
            Script.due("result of <" + text + "> after RAISED", s.host.result(), 0);
            s.calls('a', 'y', 1, DEPTH, 0, 3);
            s.run("raise 5");
            s.calls('q', 'y', 1, NAME, 0, 0);
        }
    }

    private static void resultAtFirst() {
        Script.sentence("result: At first 0.");
        Script s = new Script();
        Script.due("result", s.host.result(), 0);
        s.host.call(26, 0, 0);
        s.host.put(1, 1, 1, 1);
        Script.due("result after a refused call", s.host.result(), 0);
    }

    // ---- Promises 6 and 7 ----

    private static void placeAtFirst() {
        Script.sentence("place: At first 0.");
        Script s = new Script();
        Script.due("place", s.host.place(), 0);
        s.host.call(26, 0, 0);
        s.host.put(1, 1, 1, 1);
        Script.due("place after a refused call", s.host.place(), 0);
    }

    private static void placeOfErrors() {
        Script.sentence("Of the last run, or host call that was not REFUSED: the number of the line of the error (or first wrong line)");
        Script s = new Script();
        s.runs(METHODS, DONE, 0);
        s.runs("pass\nq", NAME, 14);
        s.host.put(10, 0, 0, 0);
        s.host.call(0, 26, 1);
        Script.due("after put and a refused call", s.host.place(), 14);
        s.host.run();
        Script.due("after a run that is done", s.host.place(), 0);
        s.calls('a', 'z', 0, ZERO, 0, 10);
        s.runs("\n\n1 1", WRONG, 18);
        s.runs("while 1:\n pass", STEPS, 16);
        s.runs("raise 3", RAISED, 18);
        s.runs("a.r(3)", RAISED, 8);
    }

    private static void placeIfDone() {
        Script.sentence("0 if DONE");
        Script s = new Script();
        s.runs("q", NAME, 1);
        s.runs("pass", DONE, 0);
        s.runs("q", NAME, 3);
        s.runs("", DONE, 0);
        s.runs("1 1", WRONG, 5);
        s.runs("x=X()", DONE, 0);
        s.runs("q", NAME, 6);
        s.calls('x', 'h', 1, DONE, Script.number(2), 0);
        s.runs("try:\n q\nexcept e:\n pass", DONE, 0);
    }

    private static void linesKept() {
        Script.sentence("Lines kept so far");
        Script s = new Script();
        Script.due("at first", s.host.lines(), 0);
        s.put("pass\npass");
        Script.due("pending", s.host.lines(), 0);
        s.host.run();
        Script.due("kept", s.host.lines(), 2);
        s.runs("\n\npass\n\n", DONE, 0);
        Script.due("blank lines too", s.host.lines(), 7);
        s.runs("pass\n1 1", WRONG, 9);
        Script.due("not a wrong chunk's", s.host.lines(), 7);
        s.runs("q\npass", NAME, 8);
        Script.due("an error's", s.host.lines(), 9);
        s.runs("while 1:\n pass", STEPS, 10);
        Script.due("and those of too many steps", s.host.lines(), 11);
        s.call('a', 'f', 1);
        Script.due("none for a call", s.host.lines(), 11);
    }

    private static void nextLineNumber() {
        Script.sentence("the next chunk's first line has this number plus 1");
        Script s = new Script();
        for (int at = 0; at < 5; at++) {
            s.runs("q" + "\n".repeat(at), NAME, s.host.lines() + 1);
            s.runs("1 1", WRONG, s.host.lines() + 1);
            s.runs("\n\nq", NAME, s.host.lines() + 3);
        }
        Script.due("lines", s.host.lines(), 1 + 2 + 3 + 4 + 5 + 15);
        // The most lines that one object can have by its tokens.
        Script t = new Script();
        t.runs("\n".repeat(399) + "q", NAME, 400);
        t.runs("", DONE, 0);
        Script.due("lines without tokens go on", t.host.lines(), 401);
    }

    // ---- Promises 8 to 12 ----

    private static void variables() {
        Script.sentence("A global variable 0 .. 25 as a long; 0 for other numbers.");
        Script s = new Script();
        s.runs("a=1\nz=none\nm=X()\nclass A:\n b=5\n def f(s,y):\n  c=6\nA().f(7)", DONE, 0);
        Script.due("a", s.host.variable(0), Script.number(1));
        Script.due("z", s.host.variable(25), Script.NONE);
        Script.due("m", s.host.variable(12), Script.object(0));
        Script.due("b, an entry", s.host.variable(1), 0);
        Script.due("c, a local", s.host.variable(2), 0);
        Script.due("y, a parameter", s.host.variable(24), 0);
        for (int bad : OUT_OF_RANGE) {
            Script.due("variable " + bad, s.host.variable(bad), 0);
        }
    }

    private static void attributes() {
        Script.sentence("An own attribute 0 .. 25 of the object in a global variable as a long; 0 if there is none (or no object, or a "
            + "number out of range).");
        Script s = new Script();
        s.runs("class A:\n k=1\n def m(s):\n  pass\na=A()\nz=A()\na.a=1\na.z=none\nz.a=a\nz.z=0-1\nb=3\nc=none", DONE, 0);
        Script.due("a.a", s.host.attribute(0, 0), Script.number(1));
        Script.due("a.z", s.host.attribute(0, 25), Script.NONE);
        Script.due("z.a", s.host.attribute(25, 0), Script.object(1));
        Script.due("z.z", s.host.attribute(25, 25), Script.number(-1));
        Script.due("a value of the class", s.attribute('a', 'k'), 0);
        Script.due("a method of the class", s.attribute('a', 'm'), 0);
        Script.due("none", s.attribute('a', 'b'), 0);
        Script.due("of an int", s.attribute('b', 'a'), 0);
        Script.due("of none", s.attribute('c', 'a'), 0);
        Script.due("of an unset variable", s.attribute('d', 'a'), 0);
        for (int bad : OUT_OF_RANGE) {
            Script.due("variable " + bad, s.host.attribute(bad, 0), 0);
            Script.due("name " + bad, s.host.attribute(0, bad), 0);
            Script.due("name " + bad + " of z", s.host.attribute(25, bad), 0);
        }
    }

    private static void entries() {
        Script.sentence("The own entry 0 .. 25 of a class number as a long; 0 for numbers out of range.");
        Script s = new Script();
        s.runs("class A:\n a=1\n z=none\n def m(s):\n  pass\nclass B(A):\n b=A()", DONE, 0);
        Script.due("a", s.host.entry(1, 0), Script.number(1));
        Script.due("z", s.host.entry(1, 25), Script.NONE);
        Script.due("m", s.host.entry(1, 12), Script.METHOD);
        Script.due("b", s.host.entry(2, 1), Script.object(1));
        Script.due("only its own", s.host.entry(2, 0), 0);
        Script.due("no entry", s.host.entry(1, 1), 0);
        Script.due("h of class 0", s.host.entry(0, 7), Script.METHOD);
        for (int bad : OUT_OF_RANGE) {
            Script.due("class " + bad, s.host.entry(bad, 0), 0);
            Script.due("name " + bad, s.host.entry(1, bad), 0);
            Script.due("name " + bad + " of class 2", s.host.entry(2, bad), 0);
            Script.due("name " + bad + " of class 0", s.host.entry(0, bad), 0);
        }
        for (int number = 3; number < 40; number++) {
            Script.due("class " + number, s.host.entry(number, 0), 0);
        }
        // All ten classes have entries.
        s.runs("n=3\nwhile n<10:\n class A:\n  z=n\n n=n+1", DONE, 0);
        for (int number = 3; number < 10; number++) {
            Script.due("z of " + number, s.host.entry(number, 25), Script.number(number));
        }
        Script.due("class 10", s.host.entry(10, 25), 0);
    }

    private static void orders() {
        Script.sentence("The number of the class at a place (0 first) of the order of a class; -1 past its end or for numbers out of "
            + "range.");
        Script s = new Script();
        s.runs("class A(X):\n pass\nclass B(A):\n pass", DONE, 0);
        s.order(0, 0);
        s.order(1, 1, 0);
        s.order(2, 2, 1, 0);
        for (int place = 3; place < 40; place++) {
            Script.due("place " + place, s.host.order(2, place), -1);
            Script.due("class " + place, s.host.order(place, 0), -1);
        }
        for (int bad : OUT_OF_RANGE) {
            Script.due("place " + bad, s.host.order(2, bad), -1);
            Script.due("class " + bad, s.host.order(bad, 0), -1);
            Script.due("both " + bad, s.host.order(bad, bad), -1);
        }
        // An order that failed or was not used is not seen.
        s.runs("class C(A,B):\n pass", TYPE, 5);
        s.order(3);
        Script t = new Script();
        t.runs("while 1:\n class X(X):\n  pass", MEMORY, 2);
        t.order(9, 9, 8, 7, 6, 5, 4, 3, 2, 1, 0);
        for (int place = 0; place < 14; place++) {
            Script.due("class 10 at " + place, t.host.order(10, place), -1);
            Script.due("past the end of the longest", t.host.order(9, 10 + place), -1);
        }
    }

    private static void letters() {
        Script.sentence("The number of the class that a letter 0 .. 25 for A .. Z names, or -1.");
        Script s = new Script();
        for (int letter = 0; letter < 26; letter++) {
            Script.due("letter " + letter, s.host.named(letter), letter == 23 ? 0 : -1);
        }
        s.runs("class A:\n pass\nclass Z:\n pass\nclass X:\n pass", DONE, 0);
        Script.due("A", s.host.named(0), 1);
        Script.due("Z", s.host.named(25), 2);
        Script.due("X", s.host.named(23), 3);
        for (int bad : OUT_OF_RANGE) {
            Script.due("letter " + bad, s.host.named(bad), -1);
        }
        s.runs("class A:\n pass", DONE, 0);
        Script.due("A again", s.host.named(0), 4);
    }

    // ---- Promises 13 to 15 ----

    private static void printCount() {
        Script.sentence("How many ints were printed so far.");
        Script s = new Script();
        Script.due("at first", s.host.prints(), 0);
        s.runs("print 1\nprint 2", DONE, 0);
        Script.due("two", s.host.prints(), 2);
        s.runs("print none", TYPE, 3);
        s.runs("print X()", TYPE, 4);
        s.runs("print 3\n1 1", WRONG, 6);
        Script.due("still two", s.host.prints(), 2);
        s.runs("class A:\n def f(s,x):\n  while x:\n   print x\n   x=x-1\na=A()", DONE, 0);
        s.call('a', 'f', 15);
        Script.due("seventeen", s.host.prints(), 17);
        s.call('a', 'f', 60);
        Script.due("more than are kept", s.host.prints(), 77);
        s.runs("while 1:\n print 1", STEPS, 11);
        Script.due("a hundred more before STEPS", s.host.prints(), 177);
    }

    private static void lastPrints() {
        Script.sentence("The int printed back places before the last (0: the last), for 0 .. 15 and less than prints(); else 0.");
        Script s = new Script();
        Script.due("at first", s.host.printed(0), 0);
        for (int count = 1; count <= 35; count++) {
            s.runs("print " + count + "*1000-17000", DONE, 0);
            for (int back = -1; back <= 40; back++) {
                boolean kept = back >= 0 && back <= 15 && back < count;
                Script.due("printed(" + back + ") of " + count, s.host.printed(back), kept ? (count - back) * 1000 - 17000 : 0);
            }
            for (int bad : new int[] {Integer.MIN_VALUE, -16, 16, 17, 31, 32, 48, 1 << 16, Integer.MAX_VALUE}) {
                Script.due("printed(" + bad + ")", s.host.printed(bad), 0);
            }
        }
    }

    private static void liveNow() {
        Script.sentence("How many objects are live now.");
        Script s = new Script();
        Script.due("at first", s.host.live(), 0);
        s.put("a=X()");
        Script.due("pending", s.host.live(), 0);
        s.host.run();
        Script.due("one", s.host.live(), 1);
        s.runs("b=a\na.p=a\nX()", DONE, 0);
        Script.due("still one", s.host.live(), 1);
        s.runs("a=X()\nb.q=X()\nb.r=X()\nc=X()\nd=X()\ne=X()\nf=X()", DONE, 0);
        Script.due("all eight", s.host.live(), 8);
        s.runs("g=X()", MEMORY, s.host.lines() + 1);
        Script.due("eight still", s.host.live(), 8);
        s.runs("a=0\nb=0", DONE, 0);
        Script.due("four", s.host.live(), 4);
        s.runs("c=0\nd=0\ne=0\nf=none", DONE, 0);
        Script.due("none", s.host.live(), 0);
    }

    // ---- The object as a whole ----

    private static void fiveHundredAndTwelveCalls() {
        Script.sentence("An object is used for at most 512 calls after it has been made; what later calls answer is free.");
        HostedScript host = new HostedScript(8, 200, 6);
        host.put(123, 26, 153, 21);
        host.put(22, 0, 0, 0);
        Script.due("run", host.run(), DONE);
        for (int call = 4; call < 512; call += 2) {
            Script.due("call " + call, host.call(23, 19, call), DONE);
            Script.due("call " + (call + 1), host.result(), Script.number(2));
        }
        Script.due("the 512th call", host.run(), DONE);
        // Later ones must still end, and without an exception.
        for (int call = 0; call < 3000; call++) {
            host.put(11, 1001, 40 + call % 9, call);
            host.run();
            host.call(call % 28 - 1, call % 27, call);
            host.printed(call % 20 - 2);
            host.live();
        }
        Script.due("it still lives", host.named(23) >= -1 ? 1 : 0, 1);
    }
}
