/** The edges that the document names for values, running, plain expressions and errors: each sentence has a test of its own. */
public final class RunEdgesTest {
    private static final int DONE = HostedScript.DONE;
    private static final int NAME = HostedScript.NAME;
    private static final int TYPE = HostedScript.TYPE;
    private static final int ATTR = HostedScript.ATTR;
    private static final int ZERO = HostedScript.ZERO;
    private static final int MEMORY = HostedScript.MEMORY;
    private static final int RAISED = HostedScript.RAISED;
    private static final int STEPS = HostedScript.STEPS;

    public static void main(String[] args) {
        chunksLiveOn();
        intsWrap();
        truth();
        fourAttributes();
        chunkNamesAreGlobal();
        localNames();
        eachCallHasItsOwn();
        otherNamesAreGlobal();
        linesThatTakeAStep();
        elseAndExceptTakeNone();
        theNextStepIsNotTaken();
        nothingCatchesSteps();
        branches();
        leftToRight();
        aloneAndDropped();
        printLines();
        raiseLines();
        returnLines();
        callsThatEndOtherwise();
        setNames();
        setAttributes();
        setEntries();
        triesCatch();
        triesWithoutError();
        unsetNames();
        intsElseType();
        flooredDivision();
        divisorZero();
        less();
        plusOfAnObject();
        same();
        attributeOfAnObject();
        entryOfAClass();
        placeOfAnError();
        whatWasDoneStays();
        valuesAsLongs();
        Script.end();
    }

    /** Each text, run by a new object after the first chunk, must end so at its first line. */
    private static void allEnd(String before, int answer, String... texts) {
        for (String text : texts) {
            Script s = new Script();
            s.runs(before, DONE, 0);
            s.runs(text, answer, answer == DONE ? 0 : s.host.lines() + 1);
        }
    }

    private static void chunksLiveOn() {
        Script.sentence("a chunk that is right is run at once and kept: its classes, variables and objects live on");
        Script s = new Script();
        s.runs("class A:\n k=1\n def f(s,x):\n  s.p=x\n  return n\na=A()\nn=5", DONE, 0);
        s.prints("print a.f(7)\nprint a.p\nprint A.k\nn=6", 5, 7, 1);
        s.calls('a', 'f', 8, DONE, Script.number(6), 0);
        s.prints("print a.p\nb=A()\nb.p=9\nprint a.p+b.p", 8, 17);
    }

    // ---- Values ----

    private static void intsWrap() {
        Script.sentence("an int (32 bits, wraps)");
        Script s = new Script();
        s.runs("m=2147482647+1000\nn=m+1", DONE, 0);
        Script.due("the greatest", s.variable('m'), Script.number(Integer.MAX_VALUE));
        Script.due("one more", s.variable('n'), Script.number(Integer.MIN_VALUE));
        s.prints("print n-1\nprint 0-n\nprint n/(0-1)\nprint m*2\nprint n*2\nprint m*m\nprint n+n\nprint 0-m-2",
            Integer.MAX_VALUE, Integer.MIN_VALUE, Integer.MIN_VALUE, -2, 0, 1, 0, Integer.MAX_VALUE);
        s.prints("print n<m\nprint m<n\nprint m+1<m\nprint n-1==m", 1, 0, 1, 1);
    }

    private static void truth() {
        Script.sentence("none and 0 are false, all else true.");
        String[] values = {"none", "0", "1", "0-1", "2147482647+1001", "x", "1-1", "1==2"};
        boolean[] isTrue = {false, false, true, true, true, true, false, false};
        for (int at = 0; at < values.length; at++) {
            Script s = new Script();
            s.runs("x=X()", DONE, 0);
            s.prints("if " + values[at] + ":\n print 1\nelse:\n print 2", isTrue[at] ? 1 : 2);
            s.prints("v=" + values[at] + "\nw=0\nwhile v:\n v=0\n w=1\nprint w", isTrue[at] ? 1 : 0);
        }
    }

    private static void fourAttributes() {
        Script.sentence("An object has a class and up to 4 attributes (name and value).");
        Script s = new Script();
        s.runs("a=X()\na.a=1\na.b=none\na.y=a\na.z=4", DONE, 0);
        s.runs("a.c=5", MEMORY, 6);
        Script.due("c", s.attribute('a', 'c'), 0);
        s.runs("a.a=6\na.b=7\na.y=8\na.z=none", DONE, 0);
        Script.due("a", s.attribute('a', 'a'), Script.number(6));
        Script.due("b", s.attribute('a', 'b'), Script.number(7));
        Script.due("y", s.attribute('a', 'y'), Script.number(8));
        Script.due("z", s.attribute('a', 'z'), Script.NONE);
        Script.due("class", s.variable('a'), Script.object(0));
        // none is a value: an attribute that became none is still one of the four.
        s.runs("a.a=none\na.c=1", MEMORY, 12);
        // Another object has its own four.
        s.runs("b=X()\nb.c=1\nb.d=1\nb.e=1\nb.f=1", DONE, 0);
        s.runs("b.g=1", MEMORY, 18);
    }

    private static void chunkNamesAreGlobal() {
        Script.sentence("Variables of the chunks are global.");
        Script s = new Script();
        s.runs("a=1\nif 1:\n b=2\nwhile a:\n a=0\n c=3\ntry:\n raise 4\nexcept d:\n e=5", DONE, 0);
        s.prints("print a\nprint b\nprint c\nprint d\nprint e", 0, 2, 3, 4, 5);
    }

    private static void localNames() {
        Script.sentence("In a def block a name is LOCAL if it is a parameter or some line of the block is NAME = E or except NAME : with "
            + "it");
        String globals = "g=1\nh=2\nx=3\ns=4\n";
        Script s = new Script();
        s.runs(globals + "class A:\n def f(s,x):\n  x=x+1\n  s=x\n  return s\na=A()\nb=a.f(10)", DONE, 0);
        Script.due("the parameter", s.variable('b'), Script.number(11));
        Script.due("global x", s.variable('x'), Script.number(3));
        Script.due("global s", s.variable('s'), Script.number(4));
        s.runs("class B:\n def f(s,x):\n  return x\n def g(x,s):\n  return s\n def h(x):\n  return x\nc=B()\nd=c.f(5)\ne=c.g(6)\n"
            + "f=c.h()", DONE, 0);
        Script.due("a parameter that no line sets", s.variable('d'), Script.number(5));
        Script.due("another", s.variable('e'), Script.number(6));
        Script.due("the first", s.variable('f'), Script.object(2));
        // A line that sets the name may stand behind, deep in the block, or never be reached.
        String[] bodies = {"h=g\n  g=5", "if 1:\n   return g\n  g=5", "if 0:\n   while 1:\n    g=5\n  return g",
            "try:\n   pass\n  except g:\n   pass\n  return g", "return g\n  try:\n   pass\n  except g:\n   pass"};
        for (String body : bodies) {
            Script t = new Script();
            t.runs(globals + "class A:\n def f(s):\n  " + body + "\na=A()", DONE, 0);
            t.calls('a', 'f', 1, TYPE, 0, 0);
            Script.due("run of <" + body + ">", t.run("a.f()"), NAME);
            Script.due("global g after <" + body + ">", t.variable('g'), Script.number(1));
        }
        Script u = new Script();
        u.prints(globals + "class A:\n def f(s):\n  try:\n   raise 9\n  except g:\n   return g\nprint A().f()\nprint g", 9, 1);
    }

    private static void eachCallHasItsOwn() {
        Script.sentence("each call has its own, unset at first but the parameters");
        Script s = new Script();
        s.runs("class A:\n def f(s,x):\n  if x:\n   y=x\n   z=s.f(0)\n  return y\n def g(s,x):\n  y=x\n  if x:\n   s.g(x-1)\n  return y\n"
            + "a=A()", DONE, 0);
        s.runs("a.f(0)", NAME, 6);
        s.runs("a.f(1)", NAME, 6);
        s.calls('a', 'g', 3, DONE, Script.number(3), 0);
        // A call after another one at the same depth, too.
        s.runs("a.g(0)\na.f(0)", NAME, 6);
    }

    private static void otherNamesAreGlobal() {
        Script.sentence("All other names are global.");
        Script s = new Script();
        // Attributes, entries and the names that other methods set make no local name.
        s.runs("g=1\nclass A:\n g=2\n def e(s):\n  g=3\n  return g\n def f(s):\n  s.g=4\n  A.g=5\n  return g\na=A()", DONE, 0);
        s.prints("print a.e()\nprint a.f()\ng=6\nprint a.f()", 3, 1, 6);
        s.runs("class B:\n def f(s):\n  return h\nb=B()\nb.f()", NAME, 18);
        s.prints("h=8\nprint b.f()", 8);
    }

    // ---- Steps ----

    /** With 20 steps a run, the text must take exactly so many of them after the lines of the first chunk. */
    private static void takes(int steps, String before, String text) {
        Script s = new Script(8, 20, 6);
        s.runs(before, DONE, 0);
        s.runs("pass\n".repeat(19 - steps) + text + "\npass", DONE, 0);
        Script t = new Script(8, 20, 6);
        t.runs(before, DONE, 0);
        Script.due("one step too many for <" + text + ">", t.run("pass\n".repeat(20 - steps) + text + "\npass"), STEPS);
        Script.due("place of the last line after <" + text + ">", t.host.place(), t.host.lines());
    }

    private static void linesThatTakeAStep() {
        Script.sentence("A STEP is taken when a line is reached that is a class, def, try, if or while line (while: each time) or no "
            + "opener");
        for (String line : new String[] {"pass", "print 1", "1", "a=1", "X()", "x.p=1", "A.p=1"}) {
            takes(1, "class A:\n pass\nx=X()", line);
        }
        takes(2, "", "class A:\n pass");
        takes(2, "", "class A:\n def f(s):\n  pass");
        takes(4, "", "class A(X):\n a=1\n def f(s):\n  pass\n  pass\n def g(s):\n  pass");
        takes(2, "", "try:\n pass\nexcept e:\n pass\n pass");
        takes(3, "", "try:\n raise 1\nexcept e:\n pass");
        takes(1, "", "if 0:\n pass");
        takes(2, "", "if 1:\n pass");
        takes(1, "", "while 0:\n pass");
        takes(8, "", "n=0\nwhile n<3:\n n=n+1");
        takes(1, "", "\n\npass\n    \n");
        String method = "class A:\n def f(s):\n  return 1\n def a(s,x):\n  pass\n  pass\n def i(s):\n  pass\na=A()";
        takes(2, method, "a.f()");
        takes(4, method, "a.f()+a.f()+a.f()");
        takes(3, method, "a+1");
        takes(2, method, "A()");
        takes(2, "", "X().h(1)");
        takes(4, "", "X().t(1)");
    }

    private static void elseAndExceptTakeNone() {
        Script.sentence("else and except lines take none");
        takes(2, "", "if 0:\n pass\nelse:\n pass");
        takes(2, "", "if 1:\n pass\nelse:\n pass");
        takes(3, "", "if 0:\n pass\nelse:\n if 0:\n  pass\n else:\n  pass");
        takes(3, "", "try:\n raise 1\nexcept e:\n pass");
        takes(2, "", "try:\n pass\nexcept e:\n pass");
        takes(6, "", "try:\n try:\n  raise 1\n except e:\n  raise 2\nexcept e:\n pass\npass");
    }

    private static void theNextStepIsNotTaken() {
        Script.sentence("When the run has taken as many steps as its limit, the next is not taken: the run ends with STEPS at that line");
        Script s = new Script(8, 20, 6);
        s.runs("a=1\n" + "pass\n".repeat(19) + "a=2", STEPS, 21);
        Script.due("the line is not run", s.variable('a'), Script.number(1));
        s.runs("a=3\n" + "pass\n".repeat(18) + "a=4", DONE, 0);
        Script.due("twenty lines are run", s.variable('a'), Script.number(4));
        // An error at the last step is that error.
        s.runs("pass\n".repeat(19) + "q", NAME, 61);
        s.runs("pass\n".repeat(20) + "q", STEPS, 82);
        // At a method's line, a class line, a while line, and the line that follows a block.
        Script t = new Script(8, 20, 6);
        t.runs("class A:\n def f(s):\n  pass\n  return 1\na=A()", DONE, 0);
        t.runs("pass\n".repeat(18) + "a.f()", STEPS, 4);
        t.runs("pass\n".repeat(19) + "a.f()", STEPS, 3);
        t.runs("pass\n".repeat(20) + "class B:\n pass", STEPS, 5 + 19 + 20 + 21);
        Script.due("no class is made", t.named('B'), -1);
        Script u = new Script(8, 20, 6);
        u.runs("n=0\nwhile 1:\n n=n+1", STEPS, 3);
        u.runs("n=0\npass\nwhile 1:\n n=n+1", STEPS, 6);
        u.runs("pass\n".repeat(18) + "if 1:\n pass\npass", STEPS, 28);
        u.runs("pass\n".repeat(20) + "if 0:\n pass", STEPS, 49);
        u.runs("pass\n".repeat(20) + "try:\n pass\nexcept e:\n pass", STEPS, 71);
        // As many as the greatest limit.
        Script v = new Script(8, 200, 6);
        v.runs("n=0\nwhile n<99:\n n=n+1\n", DONE, 0);
        v.runs("n=0\nwhile n<99:\n n=n+1\npass\npass", STEPS, 8);
    }

    private static void nothingCatchesSteps() {
        Script.sentence("and nothing catches it");
        Script s = new Script(8, 20, 6);
        s.runs("try:\n while 1:\n  pass\nexcept e:\n print 1", STEPS, 3);
        Script.due("nothing printed", s.host.prints(), 0);
        Script.due("e", s.variable('e'), 0);
        s.runs("class A:\n def f(s,x):\n  try:\n   while 1:\n    pass\n  except e:\n   print 2\na=A()", DONE, 0);
        s.runs("try:\n a.f(1)\nexcept e:\n print 3", STEPS, 10);
        s.calls('a', 'f', 1, STEPS, 0, 10);
        Script.due("still nothing printed", s.host.prints(), 0);
        Script.due("e still", s.variable('e'), 0);
    }

    private static void branches() {
        Script.sentence("if, while and else as usual.");
        Script s = new Script();
        s.prints("if 1:\n print 1\nelse:\n print 2\nif 0:\n print 3\nelse:\n print 4\nif 0:\n print 5\nprint 6", 1, 4, 6);
        s.prints("if 1:\n if 0:\n  print 1\nelse:\n print 2\nif 0:\n if 1:\n  print 3\nelse:\n print 4", 4);
        s.prints("n=3\nwhile n:\n n=n-1\n if n==1:\n  print 10\n else:\n  print n\nprint 7", 2, 10, 0, 7);
        s.prints("n=0\nwhile n<2:\n n=n+1\n m=0\n while m<n:\n  m=m+1\n  print n*10+m", 11, 21, 22);
    }

    private static void leftToRight() {
        Script.sentence("Operands are evaluated from left to right.");
        Script s = new Script();
        s.runs("class A:\n def p(s,x):\n  print x\n  return x\n def o(s,x):\n  print x\n  return s\na=A()", DONE, 0);
        s.prints("a.p(1)+a.p(2)*a.p(3)", 1, 2, 3);
        s.prints("(a.p(1)+a.p(2))*a.p(3)<a.p(4)-a.p(5)", 1, 2, 3, 4, 5);
        s.prints("a.p(1)==a.p(2)/a.p(3)", 1, 2, 3);
        s.prints("a.o(1).o(a.p(2)).p(a.p(3))", 1, 2, 2, 3, 3);
        s.prints("print 10-3-2\nprint 10-3+2\nprint 100/5/2\nprint 2*7/4\nprint 2+3*4\nprint 20-6/3", 5, 9, 10, 3, 14, 18);
        s.prints("a.o(1).k=a.p(2)", 1, 2);
        s.runs("q+1/0", NAME, 20);
        s.runs("1/0+q", ZERO, 21);
        s.runs("1/0-(1+q)", ZERO, 22);
        s.runs("none*1+q", TYPE, 23);
        s.runs("q.p(1/0)", NAME, 24);
        s.runs("q.p=1/0", NAME, 25);
    }

    // ---- Lines ----

    private static void aloneAndDropped() {
        Script.sentence("E alone: evaluated, dropped.");
        Script s = new Script(2, 20, 6);
        s.runs("1\nnone\nX()\nX()==X()\nX()", DONE, 0);
        Script.due("nothing is held", s.host.live(), 0);
        Script.due("nothing is answered", s.host.result(), 0);
        s.runs("q", NAME, 6);
        s.runs("1/0", ZERO, 7);
    }

    private static void printLines() {
        Script.sentence("print E: an int is printed, else TYPE.");
        Script s = new Script();
        s.prints("print 0\nprint 0-1\nprint 2147482647+1001\nprint 1<2", 0, -1, Integer.MIN_VALUE, 1);
        allEnd("x=X()", TYPE, "print none", "print x", "print X()");
        s.runs("print 7\nprint none\nprint 8", TYPE, 6);
        Script.due("only the first", s.host.prints(), 5);
    }

    private static void raiseLines() {
        Script.sentence("raise E: an int v: error RAISED with code v; else TYPE.");
        Script s = new Script();
        s.runs("m=2147482647+1000", DONE, 0);
        String[] texts = {"0", "1", "3", "0-1", "m", "m+1"};
        int[] codes = {0, 1, 3, -1, Integer.MAX_VALUE, Integer.MIN_VALUE};
        for (int at = 0; at < texts.length; at++) {
            s.runs("raise " + texts[at], RAISED, at + 2);
            Script.due("code of " + texts[at], s.host.result(), Script.number(codes[at]));
        }
        allEnd("x=X()", TYPE, "raise none", "raise x", "raise X()");
        allEnd("x=X()", NAME, "raise q");
        s.runs("raise none", TYPE, 8);
        Script.due("no code", s.host.result(), 0);
    }

    private static void returnLines() {
        Script.sentence("return E: the call answers it.");
        Script s = new Script();
        s.runs("class A:\n def f(s,x):\n  while 1:\n   try:\n    if 1:\n     return x\n   except e:\n    pass\n  print 9\n def g(s,x):\n"
            + "  return s\n  print 9"
            + "\n def n(s,x):\n  return none\na=A()", DONE, 0);
        s.prints("print a.f(4)+a.f(5)\nprint a.g(1)==a\nprint a.n(1)==none", 9, 1, 1);
        s.calls('a', 'f', 6, DONE, Script.number(6), 0);
    }

    private static void callsThatEndOtherwise() {
        Script.sentence("A call whose block ends otherwise answers none.");
        Script s = new Script();
        s.runs("class A:\n def f(s,x):\n  pass\n def g(s,x):\n  if x:\n   return 1\n def h(s,x):\n  x\n def k(s,x):\n  while x:\n   x=0\n"
            + " def l(s,x):\n  try:\n"
            + "   1/x\n  except e:\n   pass\n def m(s,x):\n  if 0:\n   pass\n  else:\n   pass\na=A()", DONE, 0);
        for (char method : new char[] {'f', 'g', 'h', 'k', 'l', 'm'}) {
            s.calls('a', method, 0, DONE, Script.NONE, 0);
        }
        s.calls('a', 'g', 1, DONE, Script.number(1), 0);
        s.calls('a', 'k', 1, DONE, Script.NONE, 0);
        s.calls('a', 'l', 1, DONE, Script.NONE, 0);
    }

    private static void setNames() {
        Script.sentence("NAME = E sets the variable; directly in a class block, the entry of the class made there.");
        Script s = new Script();
        s.runs("a=1\na=a+1\nclass A:\n a=5\n b=a\n def f(s):\n  c=7\n a=6", DONE, 0);
        Script.due("global a", s.variable('a'), Script.number(2));
        Script.due("global b", s.variable('b'), 0);
        Script.due("A.a", s.entry(1, 'a'), Script.number(6));
        Script.due("A.b is the variable's", s.entry(1, 'b'), Script.number(2));
        s.runs("A().f()", DONE, 0);
        Script.due("A.c", s.entry(1, 'c'), 0);
        // The class made by this run of the line, though its letter names another class before and after.
        s.runs("n=0\nwhile n<2:\n class B:\n  k=n\n n=n+1\nclass B(B):\n k=9", DONE, 0);
        Script.due("k of 2", s.entry(2, 'k'), Script.number(0));
        Script.due("k of 3", s.entry(3, 'k'), Script.number(1));
        Script.due("k of 4", s.entry(4, 'k'), Script.number(9));
        s.runs("a=q", NAME, 17);
        Script.due("a stays", s.variable('a'), Script.number(2));
    }

    private static void setAttributes() {
        Script.sentence("P . NAME = E: P, then E, are evaluated; P's value no object: TYPE; the object has 4 attributes and none of this "
            + "name: MEMORY; else set.");
        String full = "x=X()\nx.a=1\nx.b=1\nx.c=1\nx.d=1\ny=X()\ny.a=1\ny.b=1\ny.c=1\nz=none";
        allEnd(full, NAME, "q.a=1/0", "x.e=q", "1.a=q", "none.a=q");
        allEnd(full, ZERO, "x.e=1/0", "1.a=1/0", "z.a=1/0");
        allEnd(full, TYPE, "1.a=1", "none.a=1", "z.a=1", "(1<2).a=x", "x.a.e=1");
        allEnd(full, MEMORY, "x.e=1", "x.h=1", "x.z=none", "x.e=x");
        allEnd(full, DONE, "x.a=2", "x.d=none", "y.d=1", "y.z=x", "y.a=y");
    }

    private static void setEntries() {
        Script.sentence("CLASS . NAME = E: E is evaluated; the letter names no class: NAME; class 0: TYPE; else the entry becomes that "
            + "value.");
        String before = "class A:\n a=1\n def f(s):\n  pass\nx=A()";
        allEnd(before, ZERO, "Q.a=1/0", "X.a=1/0", "A.a=1/0");
        allEnd(before, NAME, "Q.a=1", "B.a=none", "A.a=q", "X.a=q");
        allEnd(before, TYPE, "X.a=1", "X.h=1", "X.t=none");
        Script s = new Script();
        s.runs(before, DONE, 0);
        s.runs("A.a=2\nA.b=none\nA.f=x\nA.z=0-1", DONE, 0);
        Script.due("A.a", s.entry(1, 'a'), Script.number(2));
        Script.due("A.b", s.entry(1, 'b'), Script.NONE);
        Script.due("A.f, a method before", s.entry(1, 'f'), Script.object(1));
        Script.due("A.z", s.entry(1, 'z'), Script.number(-1));
    }

    private static void triesCatch() {
        Script.sentence("try: an error of its block (also in methods called there) sets the NAME of its except line to the error's code "
            + "(NAME 2 .. MEMORY 7; v for RAISED), "
            + "and the except block is run");
        String before = "class A:\n def f(s,x):\n  return s.f(x)\n def r(s,x):\n  raise x\n def n(s,x):\n  return s.o(x)\n def o(s,x):\n"
            + "  return q\na=A()\n"
            + "a.p=1\na.y=1\na.z=1\na.w=1";
        String[] texts = {"q", "none+1", "a.v", "1/0", "a.f(1)", "a.v=1", "raise 8", "raise 0", "raise 0-2", "raise 9", "a.n(1)",
            "a.r(44)", "raise none"};
        int[] codes = {2, 3, 4, 5, 6, 7, 8, 0, -2, 9, 2, 44, 3};
        for (int at = 0; at < texts.length; at++) {
            Script s = new Script();
            s.runs(before, DONE, 0);
            s.prints("try:\n print 1\n " + texts[at] + "\n print 2\nexcept e:\n print e\n print 3\nprint 4", 1, codes[at], 3, 4);
            Script.due("e after " + texts[at], s.variable('e'), Script.number(codes[at]));
        }
        // The innermost try around the error; an error of an except block is not its own try's.
        Script t = new Script();
        t.prints("try:\n try:\n  raise 1\n except e:\n  print e\n  raise 2\n print 3\nexcept f:\n print f", 1, 2);
        t.runs("try:\n pass\nexcept e:\n pass\nraise 5", RAISED, 14);
        // From the deepest level.
        t.prints("try:\n if 1:\n  if 1:\n   if 1:\n    if 1:\n     if 1:\n      if 1:\n       if 1:\n        raise 6\nexcept e:\n"
            + " print e", 6);
    }

    private static void triesWithoutError() {
        Script.sentence("without error it is skipped");
        Script s = new Script();
        s.prints("try:\n print 1\nexcept e:\n print 2\nprint 3", 1, 3);
        Script.due("e", s.variable('e'), 0);
        s.prints("n=0\nwhile n<2:\n n=n+1\n try:\n  print n\n except e:\n  print 9", 1, 2);
        s.prints("try:\n try:\n  raise 1\n except e:\n  print e\nexcept f:\n print 9", 1);
    }

    // ---- Expressions ----

    private static void unsetNames() {
        Script.sentence("NAME: unset: NAME.");
        allEnd("x=X()", NAME, "a", "z", "print a", "a=a", "a+1", "1+a", "none+a", "x.h(a)", "X(a)", "a.h(1)", "a==a", "if a:\n pass",
            "while a:\n pass", "x.p=a");
        allEnd("x=none", DONE, "x", "x==x");
    }

    private static void intsElseType() {
        Script.sentence("+ - * / <: ints, else TYPE");
        for (String sign : new String[] {"+", "-", "*", "/", "<"}) {
            allEnd("x=X()\nn=none", TYPE, "1" + sign + "n", "n" + sign + "1", "n" + sign + "n", "1" + sign + "x", "0" + sign + "X()",
                "n" + sign + "x");
            allEnd("x=X()", DONE, "1" + sign + "1", "0" + sign + "1", "(1<2)" + sign + "1");
            if (!sign.equals("+")) {
                allEnd("x=X()", TYPE, "x" + sign + "1", "x" + sign + "x", "x" + sign + "none");
            }
        }
        allEnd("x=X()", TYPE, "n=none/0", "x/0", "0/x");
    }

    private static void flooredDivision() {
        Script.sentence("/ is floored");
        int[][] cases = {{7, 2, 3}, {-7, 2, -4}, {7, -2, -4}, {-7, -2, 3}, {6, 2, 3}, {-6, 2, -3}, {6, -2, -3}, {0, 5, 0}, {0, -5, 0},
            {1, 7, 0}, {-1, 7, -1},
            {1, -7, -1}, {-1, -7, 0}, {5, 1, 5}, {5, -1, -5}};
        for (int[] c : cases) {
            Script s = new Script();
            s.prints("a=" + Math.abs(c[0]) + "*" + (c[0] < 0 ? "(0-1)" : "1") + "\nb=" + Math.abs(c[1]) + "*" + (c[1] < 0 ? "(0-1)" : "1")
                + "\nprint a/b", c[2]);
        }
        Script s = new Script();
        s.runs("m=2147482647+1000\nn=m+1", DONE, 0);
        s.prints("print n/(0-1)\nprint n/1\nprint n/2\nprint n/m\nprint m/n\nprint n/n\nprint m/2\nprint (n+1)/2",
            Integer.MIN_VALUE, Integer.MIN_VALUE, -1073741824, -2, -1, 1, 1073741823, -1073741824);
        // From left to right, and above + and -.
        s.prints("print 100/7/2\nprint 7/2*2\nprint 2*7/2\nprint 1-7/2", 7, 6, 7, -2);
    }

    private static void divisorZero() {
        Script.sentence("divisor 0: ZERO");
        allEnd("x=X()\nz=0", ZERO, "1/0", "0/0", "(0-1)/0", "1/z", "1/(1-1)", "1/(2<1)", "print 4/0", "a=1/0", "if 1/0:\n pass",
            "x.h(1/0)", "x.p=1/0", "Q(1/0)");
        allEnd("x=X()", TYPE, "none/0", "x/0");
        allEnd("x=X()", NAME, "1/q");
        allEnd("x=X()", DONE, "0/1", "1/(0-1)");
    }

    private static void less() {
        Script.sentence("< gives 1 or 0");
        Script s = new Script();
        s.prints("print 1<2\nprint 2<2\nprint 3<2\nprint 0-1<0\nprint 0<0-1", 1, 0, 0, 1, 0);
        s.prints("m=2147482647+1000\nprint m<m+1\nprint m+1<m\nprint m+1<0\nprint 0<m", 0, 1, 1, 1);
    }

    private static void plusOfAnObject() {
        Script.sentence("But L + R with an object L is the call L.a(R).");
        String before = "class A:\n def a(s,x):\n  s.k=x\n  return x\na=A()\nclass B:\n a=1\nb=B()\nclass C:\n def a(s):\n  return 1\n"
            + "c=C()\nx=X()\nd=A()\nd.a=1";
        Script s = new Script();
        s.runs(before, DONE, 0);
        s.prints("print a+5\nprint a.k\nprint (a+none)==none\nprint (a+a)==a\nprint a+1+2\nprint a+2*3", 5, 5, 1, 1, 3, 6);
        allEnd(before, ATTR, "x+1", "x+none");
        allEnd(before, TYPE, "b+1", "c+1", "d+1", "1+a", "none+a", "a-1", "a*a", "a<1");
        allEnd(before, NAME, "a+q", "x+q");
    }

    private static void same() {
        Script.sentence("==: 1 if both none, equal ints or the same object, else 0.");
        Script s = new Script();
        s.runs("a=X()\nb=X()\nc=a\nn=none\nclass A:\n pass\nd=A()", DONE, 0);
        s.prints("print n==none\nprint 5==2+3\nprint a==c\nprint a==a\nprint 0-1==0-1\nprint 0==0", 1, 1, 1, 1, 1, 1);
        s.prints("print n==0\nprint 0==n\nprint 1==2\nprint a==b\nprint a==d\nprint a==0\nprint 0==a\nprint n==a\nprint a==n\n"
            + "print d==1\nprint X()==X()", 0, 0, 0, 0, 0, 0, 0,
            0, 0, 0, 0);
    }

    private static void attributeOfAnObject() {
        Script.sentence("P . NAME: no object: TYPE; an own attribute: its value; else its class's order is searched: nothing: ATTR, a "
            + "method: TYPE, a value: it.");
        String before = "class A:\n a=1\n n=none\n def m(s):\n  pass\nclass B(A):\n b=2\nx=B()\nx.c=3\nx.n=4\ny=B()\ny.m=5\ny.q=none";
        allEnd(before, TYPE, "1.a", "none.a", "(1<2).z", "x.m", "y.q.a");
        allEnd(before, ATTR, "x.z", "x.q", "X().a");
        allEnd(before, NAME, "q.a");
        Script s = new Script();
        s.runs(before, DONE, 0);
        s.prints("print x.a\nprint x.b\nprint x.c\nprint x.n\nprint y.n==none\nprint y.m\nprint y.q==none", 1, 2, 3, 4, 1, 5, 1);
    }

    private static void entryOfAClass() {
        Script.sentence("CLASS . NAME: no class: NAME; else its order is searched likewise.");
        String before = "class A:\n a=1\n n=none\n def m(s):\n  pass\nclass B(A):\n b=2\n m=3\nx=B()\nx.z=1";
        allEnd(before, NAME, "Q.a", "C.a", "Z.h");
        allEnd(before, ATTR, "A.b", "A.z", "B.z", "X.a");
        allEnd(before, TYPE, "A.m", "X.h", "X.t");
        Script s = new Script();
        s.runs(before, DONE, 0);
        s.prints("print A.a\nprint B.a\nprint B.b\nprint B.m\nprint B.n==none", 1, 1, 2, 3, 1);
    }

    // ---- Errors and longs ----

    private static void placeOfAnError() {
        Script.sentence("An error that nothing catches ends the run; its place is the number of the line that was being run where it "
            + "arose (for tests of a call: the caller's line).");
        Script s = new Script();
        s.runs("class A:\n def f(s,x):\n  pass\n  return 1/x\n def g(s,x):\n  return s.f(x)\n def h(s):\n  return s.z(1)\n def i(s):\n"
            + "  A.k=1\n def r(s,x):\n  return s.r(x)\na=A()",
            DONE, 0);
        s.runs("pass\na.f(0)\npass", ZERO, 4);
        s.runs("a.g(0)", ZERO, 4);
        s.runs("a.f()", TYPE, 18);
        s.runs("a.h()", ATTR, 8);
        s.runs("a.h(1)", TYPE, 20);
        s.runs("a.r(1)", HostedScript.DEPTH, 12);
        s.runs("A(1)", TYPE, 22);
        s.runs("if 1:\n\n while q:\n  pass", NAME, 25);
        s.runs("pass\nclass B:\n k=1\n l=1/0\n m=1", ZERO, 30);
        s.runs("class C(Q):\n pass", NAME, 32);
        s.runs("try:\n raise 1\nexcept e:\n\n q", NAME, 38);
        s.runs("X().h(none)", TYPE, 0);
        s.runs("X().h()", TYPE, 40);
    }

    private static void whatWasDoneStays() {
        Script.sentence("What was done before stays done.");
        Script s = new Script();
        s.runs("a=1\nb=X()\nb.p=2\nprint 3\nclass A:\n k=4\n l=1/0\na=5", ZERO, 7);
        Script.due("a", s.variable('a'), Script.number(1));
        Script.due("b.p", s.attribute('b', 'p'), Script.number(2));
        Script.due("printed", s.host.printed(0), 3);
        Script.due("A.k", s.entry(1, 'k'), Script.number(4));
        Script.due("A.l", s.entry(1, 'l'), 0);
        Script.due("lines", s.host.lines(), 8);
        s.prints("print a+b.p+A.k", 7);
        s.runs("n=0\nwhile 1:\n n=n+1", STEPS, 12);
        Script.due("n", s.variable('n'), Script.number(99));
    }

    private static void valuesAsLongs() {
        Script.sentence("unset or nothing 0; none 2^32; an int 2 * 2^32 plus it as 0 .. 2^32 - 1; an object 3 * 2^32 plus the number of "
            + "its class; a method 4 * 2^32");
        Script s = new Script();
        s.runs("b=none\nc=0\nd=1\ne=0-1\nf=2147482647+1000\ng=f+1\nh=X()\nn=0\nwhile n<9:\n class A:\n  def m(s):\n   pass\n n=n+1\n"
            + "i=A()\ni.p=h\ni.q=i\nA.o=i", DONE, 0);
        Script.due("unset", s.variable('a'), 0L);
        Script.due("none", s.variable('b'), 4294967296L);
        Script.due("0", s.variable('c'), 8589934592L);
        Script.due("1", s.variable('d'), 8589934593L);
        Script.due("-1", s.variable('e'), 12884901887L);
        Script.due("the greatest", s.variable('f'), 10737418239L);
        Script.due("the least", s.variable('g'), 10737418240L);
        Script.due("an object of class 0", s.variable('h'), 12884901888L);
        Script.due("an object of class 9", s.variable('i'), 12884901897L);
        Script.due("in an attribute", s.attribute('i', 'p'), 12884901888L);
        Script.due("in another", s.attribute('i', 'q'), 12884901897L);
        Script.due("in an entry", s.entry(9, 'o'), 12884901897L);
        Script.due("a method", s.entry(9, 'm'), 17179869184L);
        Script.due("the host's method", s.entry(0, 't'), 17179869184L);
        Script.due("no entry", s.entry(9, 'p'), 0L);
    }
}
