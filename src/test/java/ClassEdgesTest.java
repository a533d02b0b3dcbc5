/** The edges that the document names for classes, calls and live objects: each sentence has a test of its own. */
public final class ClassEdgesTest {
    private static final int DONE = HostedScript.DONE;
    private static final int NAME = HostedScript.NAME;
    private static final int TYPE = HostedScript.TYPE;
    private static final int ATTR = HostedScript.ATTR;
    private static final int ZERO = HostedScript.ZERO;
    private static final int DEPTH = HostedScript.DEPTH;
    private static final int MEMORY = HostedScript.MEMORY;
    private static final int STEPS = HostedScript.STEPS;

    public static void main(String[] args) {
        orderWithoutBases();
        orderWithBases();
        firstListThatCanBeTaken();
        noListCanBeTaken();
        searchForT();
        searchForOthers();
        searchForNothing();
        hostClassAtFirst();
        hostLinesHaveTheNumberZero();
        hostEntriesCannotBeSet();
        classLines();
        nextNumberAndLetter();
        olderClassLivesOn();
        homeOfAMethod();
        methodCalls();
        ownAttributeHidesAMethod();
        parametersAndArguments();
        depthOfCalls();
        receiver();
        superCalls();
        superOnFromNothing();
        newObjects();
        newObjectWithoutAttributes();
        constructors();
        answerOfAConstructor();
        heldByVariablesAndEntries();
        heldByLocalsAndReceivers();
        heldByOperandsAndArguments();
        heldByTheCallThatMakesIt();
        heldByAttributes();
        Script.end();
    }

    /** Each text, run by a new object after the first chunk, must end so at its first line. */
    private static void allEnd(String before, int answer, String... texts) {
        for (String text : texts) {
            Script s = new Script();
            s.runs(before, DONE, 0);
            s.runs(text, answer, answer == DONE ? 0 : s.host.lines() + 1);
        }
    }

    // ---- Orders ----

    private static void orderWithoutBases() {
        Script.sentence("THE ORDER OF A CLASS is a list of classes that begins with itself; without bases it is itself alone.");
        Script s = new Script();
        s.order(0, 0);
        s.runs("class A:\n pass\nclass B:\n pass\nclass A:\n pass\nclass X:\n pass", DONE, 0);
        for (int number = 0; number < 5; number++) {
            s.order(number, number);
        }
        s.order(5);
    }

    private static void orderWithBases() {
        Script.sentence("With the bases B1 (and B2) the lists order(B1), (order(B2),) (B1 (, B2)) are merged behind it");
        Script s = new Script();
        s.runs("class A:\n pass\nclass B(A):\n pass\nclass C(B):\n pass\nclass D:\n pass\nclass E(C,D):\n pass\nclass F(D,C):\n pass\n"
            + "class G(X,D):\n pass\nclass H(G):\n pass"
            + "\nclass I(D,X):\n pass", DONE, 0);
        s.order(1, 1);
        s.order(2, 2, 1);
        s.order(3, 3, 2, 1);
        s.order(4, 4);
        s.order(5, 5, 3, 2, 1, 4);
        s.order(6, 6, 4, 3, 2, 1);
        s.order(7, 7, 0, 4);
        s.order(8, 8, 7, 0, 4);
        s.order(9, 9, 4, 0);
        // Without the list of the bases themselves, this could be merged.
        s.runs("class Z(A,B):\n pass", TYPE, 19);
        // As long as an order can be.
        Script t = new Script();
        t.runs("n=0\nwhile n<9:\n class X(X):\n  pass\n n=n+1", DONE, 0);
        t.order(9, 9, 8, 7, 6, 5, 4, 3, 2, 1, 0);
    }

    private static void firstListThatCanBeTaken() {
        Script.sentence("take the first list, in this sequence, whose first class stands in no list at another place than the first");
        Script s = new Script();
        // A is the first of the first list, but stands behind C in the second.
        s.runs("class A:\n pass\nclass B(A):\n pass\nclass C(A):\n pass\nclass D(B,C):\n pass\nclass E(C,B):\n pass\nclass F(C):\n pass\n"
            + "class G(D,F):\n pass\nclass H(B,A):\n pass\n"
            + "class I(D,C):\n pass", DONE, 0);
        s.order(4, 4, 2, 3, 1);
        s.order(5, 5, 3, 2, 1);
        // D, B; then C, as F stands in front of it in the second list, waits for F.
        s.order(7, 7, 4, 2, 6, 3, 1);
        s.order(8, 8, 2, 1);
        s.order(9, 9, 4, 2, 3, 1);
        // A list is taken as long as it can: all of the first before the second.
        Script t = new Script();
        t.runs("class A:\n pass\nclass B(A):\n pass\nclass C(B):\n pass\nclass D(X):\n pass\nclass E(C,D):\n pass\nclass F(A,X):\n pass\n"
            + "class G(D,F):\n pass\nclass H(F,D):\n pass",
            DONE, 0);
        t.order(5, 5, 3, 2, 1, 4, 0);
        t.order(6, 6, 1, 0);
        t.order(7, 7, 4, 6, 1, 0);
        t.order(8, 8, 6, 1, 4, 0);
    }

    private static void noListCanBeTaken() {
        Script.sentence("If no list can be taken: error TYPE.");
        String before = "class A:\n pass\nclass B(A):\n pass\nclass C(A,X):\n pass\nclass D(X,A):\n pass\nclass E(B):\n pass";
        allEnd(before, TYPE, "class Z(A,A):\n pass", "class Z(X,X):\n pass", "class Z(A,B):\n pass", "class Z(A,E):\n pass",
            "class Z(B,E):\n pass", "class Z(C,D):\n pass",
            "class Z(D,C):\n pass", "class Z(X,C):\n pass", "class A(A,A):\n pass");
        allEnd(before, DONE, "class Z(B,A):\n pass", "class Z(E,A):\n pass", "class Z(E,B):\n pass", "class Z(C,X):\n pass",
            "class Z(B,C):\n pass", "class Z(D,A):\n pass");
        // In the middle of the merge: B can be taken, then A and X disagree.
        Script s = new Script();
        s.runs(before, DONE, 0);
        s.runs("class F(B,C):\n pass\nclass G(F,D):\n pass", TYPE, 13);
        Script.due("no class is made", s.named('G'), -1);
        s.order(7);
        s.runs("try:\n class G(A,A):\n  pass\nexcept e:\n print e", DONE, 0);
        Script.due("caught", s.host.printed(0), TYPE);
        s.runs("class G(F,C):\n pass", DONE, 0);
        s.order(7, 7, 6, 2, 3, 1, 0);
    }

    // ---- Searching ----

    private static void searchForT() {
        Script.sentence("if the list holds class 0 and the name is t, class 0's own entry is found");
        String before = "class A:\n def t(s,x):\n  return 77\nclass B:\n t=5\nclass C(A,X):\n def u(s,x):\n  return super.t(x)\n"
            + "class D(X):\n t=6\nclass E(X,A):\n def t(s,x):\n  return 78\n"
            + "class F(A):\n def u(s,x):\n  return super.t(x)\nclass G(X,F):\n pass\na=A()\nb=B()\nc=C()\nd=D()\ne=E()\ng=G()";
        Script s = new Script();
        s.runs(before, DONE, 0);
        s.prints("print a.t(9)\nprint b.t\nprint B.t\nprint c.t(9)\nprint d.t(9)\nprint e.t(9)\nprint g.t(9)", 77, 5, 5, 2, 2, 2, 2);
        s.runs("D.t", TYPE, s.host.lines() + 1);
        s.runs("d.t", TYPE, s.host.lines() + 1);
        s.runs("E.t=3\nE.t", TYPE, s.host.lines() + 2);
        s.calls('c', 't', 9, DONE, Script.number(2), 0);
        s.calls('d', 't', 9, DONE, Script.number(2), 0);
        // Super's list is the part behind the home: with class 0 in it, and without.
        s.prints("print c.u(9)\nprint g.u(9)", 2, 77);
        // Only the search passes them over: the own entries and attributes are there.
        Script.due("D's own t", s.entry(4, 't'), Script.number(6));
        s.prints("d.t=8\nprint d.t", 8);
        s.runs("d.t(9)", TYPE, s.host.lines() + 1);
    }

    private static void searchForOthers() {
        Script.sentence("else the entry of the first class in the list that has one for the name");
        Script s = new Script();
        s.runs("class A:\n h=1\n k=2\n n=3\nclass B(A):\n k=4\n n=none\nclass C(X,B):\n pass\nclass D(B,X):\n pass\nclass E(A):\n k=5\n"
            + "class F(B,E):\n pass", DONE, 0);
        s.prints("print B.h\nprint B.k\nprint D.h\nprint C.k\nprint C().h(3)\nprint F.k\nprint F.h\nprint B.n==none", 1, 4, 1, 4, 6, 4,
            1, 1);
        s.runs("C.h", TYPE, s.host.lines() + 1);
        s.runs("D().h(3)", TYPE, s.host.lines() + 1);
        s.prints("A.o=6\nprint F.o\nE.o=7\nprint F.o\nB.o=8\nprint F.o\nF.o=9\nprint F.o", 6, 7, 8, 9);
    }

    private static void searchForNothing() {
        Script.sentence("or nothing");
        String before = "class A:\n k=1\nclass B(A):\n l=2\nclass C(X):\n pass\nb=B()\nc=C()";
        allEnd(before, ATTR, "b.m", "b.m()", "b.m(1)", "b.t(1)", "b.t", "A.l", "B.m", "c.k", "c.i(1)", "b+1", "c.a(1)", "X.i");
        allEnd(before, DONE, "b.k", "b.l", "B.k", "c.t(1)", "c.h(1)");
    }

    // ---- The host's class ----

    private static void hostClassAtFirst() {
        Script.sentence("THE HOST'S CLASS is number 0, at first named X, as if made by this text");
        Script s = new Script();
        Script.due("X", s.named('X'), 0);
        s.prints("x=X()\nprint x.h(4)\nprint x.t(9)\nprint x.h(0)\nprint x.h(0-3)\nm=2147482647+1000\nprint x.h(m)\nprint x.t(m+1)", 8,
            2, 0, -6, -2, 2);
        // The script's h serves the host's t.
        s.prints("class A(X):\n def h(s,x):\n  return x*x\na=A()\nprint a.t(5)\nprint a.t(0)", 9, -1);
        s.runs("class X:\n pass", DONE, 0);
        Script.due("X names another now", s.named('X'), 2);
        s.prints("print x.h(5)\nprint a.t(3)", 10, 5);
        // Its text takes steps and calls like any other, but no tokens and no lines.
        Script t = new Script(8, 20, 2);
        Script.due("no tokens", t.host.put(0, 0, 0, 0), 0);
        Script.due("no lines", t.host.lines(), 0);
        t.runs("x=X()\nx.t(1)\nx.t(1)\nx.t(1)\nx.t(1)\nx.h(1)\npass", DONE, 0);
        t.runs("x.t(1)\nx.t(1)\nx.t(1)\nx.t(1)\nx.h(1)\nx.h(1)\npass", STEPS, 14);
        t.runs("class A:\n def f(s):\n  return x.t(1)\nA().f()", DEPTH, 0);
    }

    private static void hostLinesHaveTheNumberZero() {
        Script.sentence("whose lines have the number 0");
        Script s = new Script(8, 20, 2);
        s.runs("class A(X):\n def h(s,x):\n  return none\nclass B(X):\n h=1\nclass C(X):\n def h(s,x):\n  return 1/x\nclass D(X):\n"
            + " def h(s):\n  pass", DONE, 0);
        s.runs("X().h(none)", TYPE, 0);
        s.runs("X().t(none)", TYPE, 0);
        s.runs("A().t(1)", TYPE, 0);
        s.runs("B().t(1)", TYPE, 0);
        s.runs("D().t(1)", TYPE, 0);
        // Lines of the script that the host's text calls have their own.
        s.runs("C().t(1)", ZERO, 8);
        s.runs("pass\n".repeat(19) + "X().h(1)", STEPS, 0);
        s.runs("x=X()\nx.h(x)", TYPE, 0);
        s.calls('x', 'h', 3, DONE, Script.number(6), 0);
    }

    private static void hostEntriesCannotBeSet() {
        Script.sentence("Its entries can't be set (error TYPE).");
        for (char name = 'a'; name <= 'z'; name++) {
            Script s = new Script();
            s.runs("X." + name + "=1", TYPE, 1);
            Script.due("entry " + name, s.entry(0, name), name == 'h' || name == 't' ? Script.METHOD : 0);
        }
        Script s = new Script();
        s.runs("class A:\n def f(s,x):\n  X.k=x\na=A()", DONE, 0);
        s.calls('a', 'f', 1, TYPE, 0, 3);
        s.runs("class X(X):\n pass\nX.h=1", DONE, 0);
        Script.due("h of class 0", s.entry(0, 'h'), Script.METHOD);
        Script.due("h of class 2", s.entry(2, 'h'), Script.number(1));
    }

    // ---- Class and def lines ----

    private static void classLines() {
        Script.sentence("class: a base that names no class: NAME; the order fails: TYPE; 10 classes exist: MEMORY");
        String three = "class A:\n pass\nclass B(A):\n pass";
        String all = "n=0\nwhile n<7:\n class C:\n  pass\n n=n+1\nclass A:\n pass\nclass B(A):\n pass";
        for (String before : new String[] {three, all}) {
            allEnd(before, NAME, "class D(Q):\n pass", "class D(A,Q):\n pass", "class D(Q,A):\n pass", "class D(Q,Q):\n pass",
                "class D(D):\n pass", "class D(D,D):\n pass", "class D(A,Z):\n pass");
            allEnd(before, TYPE, "class D(A,A):\n pass", "class D(A,B):\n pass");
        }
        allEnd("pass", NAME, "class D(A):\n pass", "class D(A,X):\n pass", "class D(X,A):\n pass", "class A(A):\n pass",
            "class D(X,Z):\n pass");
        allEnd(three, DONE, "class D:\n pass", "class D(A):\n pass", "class D(B,A):\n pass", "class A:\n pass", "class A(A):\n pass");
        allEnd(all, MEMORY, "class D:\n pass", "class D(A):\n pass", "class D(B,A):\n pass", "class A:\n pass", "class A(A):\n pass",
            "class X:\n pass");
        // The tenth can be made, the eleventh not; the failing line does nothing, and its block is not run.
        Script s = new Script();
        s.runs("n=1\nwhile 1:\n class A:\n  k=n\n n=n+1", MEMORY, 3);
        Script.due("numbers used", s.variable('n'), Script.number(10));
        Script.due("the last", s.entry(9, 'k'), Script.number(9));
        s.runs("class B:\n k=1", MEMORY, 6);
        Script.due("B", s.named('B'), -1);
        Script.due("A", s.named('A'), 9);
        s.runs("class A(Q):\n k=0", NAME, 8);
        s.runs("class A(A,A):\n k=0", TYPE, 10);
        Script.due("A's k", s.entry(9, 'k'), Script.number(9));
    }

    private static void nextNumberAndLetter() {
        Script.sentence("else a class is made with the next number, its letter names it from now on .., and its block is run, setting "
            + "its entries");
        Script s = new Script();
        s.runs("class Z:\n a=1\n b=Z()\n def c(s):\n  return 2\nclass A(Z):\n b=3", DONE, 0);
        Script.due("Z", s.named('Z'), 1);
        Script.due("A", s.named('A'), 2);
        Script.due("a", s.entry(1, 'a'), Script.number(1));
        Script.due("the class names itself in its block", s.entry(1, 'b'), Script.object(1));
        Script.due("c", s.entry(1, 'c'), Script.METHOD);
        Script.due("A's own b", s.entry(2, 'b'), Script.number(3));
        Script.due("A has no own a", s.entry(2, 'a'), 0);
        // A failing class line uses up no number; a failing block does, and its letter stays.
        s.runs("class B(Q):\n pass", NAME, 8);
        s.runs("class C:\n a=1/0", ZERO, 11);
        Script.due("B", s.named('B'), -1);
        Script.due("C", s.named('C'), 3);
        s.runs("class B(C):\n pass", DONE, 0);
        Script.due("B now", s.named('B'), 4);
    }

    private static void olderClassLivesOn() {
        Script.sentence("an older class of that letter lives on");
        Script s = new Script();
        s.runs("class A:\n k=1\n def f(s,x):\n  return x+s.k\nclass B(A):\n pass\na=A()\nb=B()\nclass A:\n k=9\nc=A()", DONE, 0);
        Script.due("A", s.named('A'), 3);
        s.prints("print a.k\nprint b.k\nprint c.k\nprint A.k\nprint B.k\nprint a.f(1)", 1, 1, 9, 9, 1, 2);
        s.order(1, 1);
        s.order(2, 2, 1);
        Script.due("its entry", s.entry(1, 'k'), Script.number(1));
        s.runs("A.k=7", DONE, 0);
        Script.due("its entry stays", s.entry(1, 'k'), Script.number(1));
        s.calls('b', 'f', 5, DONE, Script.number(6), 0);
        s.calls('c', 'f', 5, ATTR, 0, 0);
    }

    private static void homeOfAMethod() {
        Script.sentence("def: the entry becomes a method, whose HOME is the class made by this run of the class line.");
        Script s = new Script();
        // One def line, three homes: each goes on behind its own.
        s.runs("class A:\n def f(s,x):\n  return x\nn=0\nwhile n<3:\n n=n+1\n class A(A):\n  k=n\n  def f(s,x):\n"
            + "   return super.f(x*10+1)\na=A()", DONE, 0);
        s.order(4, 4, 3, 2, 1);
        s.prints("print a.f(7)", 7111);
        s.runs("class B:\n f=1\n def f(s):\n  return 2\n def f(s,x):\n  return 3\nb=B()", DONE, 0);
        Script.due("f", s.entry(5, 'f'), Script.METHOD);
        s.prints("print b.f(1)", 3);
        s.runs("b.f()", TYPE, s.host.lines() + 1);
    }

    // ---- Calls ----

    private static final String CALLED = "class A:\n v=1\n def f(s):\n  return 1\n def g(s,x):\n  return x\nclass B(A):\n pass\na=A()\n"
        + "b=B()\nb.g=2\nb.z=3\nn=none";

    private static void methodCalls() {
        Script.sentence("P and the argument are evaluated; then: P no object: TYPE; .. the order of its class is searched: nothing: "
            + "ATTR; a value: TYPE");
        allEnd(CALLED, ZERO, "a.g(1/0)", "a.q(1/0)", "1.g(1/0)", "n.g(1/0)", "a.v(1/0)", "b.g(1/0)", "a.f(1/0)");
        allEnd(CALLED, NAME, "q.g(1)", "q.g()", "q.g(1/0)", "a.q(q)");
        allEnd(CALLED, TYPE, "1.g(1)", "0.f()", "n.g(1)", "none.q()", "(1<2).f()", "a.v()", "a.v(1)", "b.v()", "a.f().f()");
        allEnd(CALLED, ATTR, "a.q()", "a.q(1)", "b.q(1)", "a.z()");
        allEnd(CALLED, DONE, "a.f()", "a.g(1)", "a.g(none)", "a.g(a)", "b.f()", "a.g(a).f()");
    }

    private static void ownAttributeHidesAMethod() {
        Script.sentence("an own attribute NAME: TYPE");
        allEnd(CALLED, TYPE, "b.g(1)", "b.g()", "b.z()", "b.z(1)");
        Script s = new Script();
        s.runs(CALLED, DONE, 0);
        s.prints("print a.g(4)", 4);
        s.runs("a.g=none\na.g(4)", TYPE, s.host.lines() + 2);
        s.calls('b', 'g', 1, TYPE, 0, 0);
        s.calls('a', 'g', 1, TYPE, 0, 0);
    }

    private static void parametersAndArguments() {
        Script.sentence("the method's parameters are not one more than the arguments: TYPE");
        allEnd(CALLED, TYPE, "a.f(1)", "a.g()", "b.f(none)", "A().g()");
        Script s = new Script();
        s.runs(CALLED, DONE, 0);
        s.calls('a', 'f', 1, TYPE, 0, 0);
        s.calls('a', 'g', 1, DONE, Script.number(1), 0);
        // It comes before the depth.
        Script t = new Script(8, 200, 2);
        t.runs("class A:\n def f(s,x):\n  return s.g(x)\n def g(s,x):\n  if x==1:\n   return s.f()\n  if x==2:\n   return s.q(x)\n"
            + "  if x==3:\n   return s.v(x)\n"
            + "  return s.f(x)\n v=1\na=A()", DONE, 0);
        t.calls('a', 'f', 1, TYPE, 0, 6);
        t.calls('a', 'f', 2, ATTR, 0, 8);
        t.calls('a', 'f', 3, TYPE, 0, 10);
        t.calls('a', 'f', 4, DEPTH, 0, 11);
    }

    private static void depthOfCalls() {
        Script.sentence("as many calls as the depth limit are active: DEPTH");
        for (int depth = 2; depth <= 6; depth++) {
            Script s = new Script(8, 200, depth);
            s.runs("class A:\n def f(s,x):\n  if x==1:\n   return 1\n  return 1+s.f(x-1)\na=A()", DONE, 0);
            s.calls('a', 'f', depth, DONE, Script.number(depth), 0);
            s.calls('a', 'f', depth + 1, DEPTH, 0, 5);
            // A chunk is no call, and a call that has ended is not active.
            s.runs("print a.f(" + depth + ")+a.f(" + depth + ")", DONE, 0);
            s.runs("a.f(" + depth + "+1)", DEPTH, 5);
            s.runs("a.f(a.f(a.f(" + depth + ")))", DONE, 0);
            // Nor one that an error has ended.
            s.runs("n=0\nwhile n<3:\n n=n+1\n try:\n  a.f(9)\n except e:\n  print e\nprint a.f(" + depth + ")", DONE, 0);
            Script.due("all of them", s.host.printed(0), depth);
            Script.due("DEPTH before", s.host.printed(1), DEPTH);
        }
    }

    private static void receiver() {
        Script.sentence("else the method runs, its parameters set to the object (the RECEIVER of the call) and the argument");
        Script s = new Script();
        s.runs("class A:\n def f(z,a):\n  z.p=a\n  return z\n def g(a,z):\n  a=z\n  return a\na=A()\nb=A()", DONE, 0);
        s.prints("print a.f(3)==a\nprint a.p\nprint b.f(none)==b\nprint b.p==none\nprint a.g(5)\nprint a.g(b)==b\nprint a.p", 1, 3, 1,
            1, 5, 1, 3);
        s.calls('b', 'f', -1, DONE, Script.object(1), 0);
        Script.due("b.p", s.attribute('b', 'p'), Script.number(-1));
    }

    private static void superCalls() {
        Script.sentence("with the receiver of the active call the part of its class's order behind the home of the active method is "
            + "searched");
        Script s = new Script();
        s.runs("class A:\n def f(s,x):\n  return x+s.k\nclass B(A):\n def f(s,x):\n  s=none\n  return super.f(x*10)\nclass C(A):\n"
            + " def f(s,x):\n  return super.f(x*10+3)\n"
            + "class D(B,C):\n pass\nb=B()\nb.k=1\nd=D()\nd.k=2", DONE, 0);
        // In an object of D, what stands behind B is C, then A.
        s.prints("print b.f(5)\nprint d.f(5)", 51, 505);
        // The own attribute of that name does not matter, nor the receiver's class before the home.
        s.runs("class E(A):\n def g(s,x):\n  s.f=1\n  return super.f(x)\n def f(s,x):\n  return 0\ne=E()\ne.k=4", DONE, 0);
        s.calls('e', 'g', 5, DONE, Script.number(9), 0);
        s.runs("class F(E):\n def f(s,x):\n  return 1\nf=F()\nf.k=6", DONE, 0);
        s.calls('f', 'g', 5, DONE, Script.number(11), 0);
        // A call of another object in between leaves the receiver as it was.
        s.runs("class G(A):\n def f(s,x):\n  b.f(1)\n  n.n()\n  return super.f(x)\ng=G()\ng.k=8\nclass N:\n def n(s):\n  pass\nn=N()",
            DONE, 0);
        s.calls('g', 'f', 5, DONE, Script.number(13), 0);
    }

    private static void superOnFromNothing() {
        Script.sentence("super . NAME ( E ) or ( ): the argument; .. then on as above from \"nothing: ATTR\"");
        Script s = new Script(8, 200, 2);
        s.runs("class A:\n v=1\n def f(s):\n  return 1\n def g(s,x):\n  return x\nclass B(A):\n def a(s,x):\n  return super.q(1/x)\n"
            + " def b(s,x):\n  return super.v()\n def c(s,x):\n"
            + "  return super.f(x)\n def d(s,x):\n  return super.g()\n def e(s,x):\n  return super.g(x)\n def f(s,x):\n  return s.e(x)\n"
            + " def g(s,x):\n  return super.a(x)\nb=B()", DONE, 0);
        s.calls('b', 'a', 0, ZERO, 0, 9);
        s.calls('b', 'a', 1, ATTR, 0, 9);
        s.calls('b', 'b', 1, TYPE, 0, 11);
        s.calls('b', 'c', 1, TYPE, 0, 13);
        s.calls('b', 'd', 1, TYPE, 0, 15);
        s.calls('b', 'e', 1, DONE, Script.number(1), 0);
        s.calls('b', 'f', 1, DEPTH, 0, 17);
        s.calls('b', 'g', 1, ATTR, 0, 21);
        // The home itself is not searched; without bases nothing stands behind it.
        Script t = new Script();
        t.runs("class A:\n def f(s,x):\n  return super.f(x)\na=A()", DONE, 0);
        t.calls('a', 'f', 1, ATTR, 0, 3);
    }

    // ---- New objects ----

    private static void newObjects() {
        Script.sentence("CLASS ( E ) or ( ): the argument; no class: NAME; as many objects as the limit are live: MEMORY");
        String classes = "class A:\n def i(s,x):\n  s.p=x\nclass B:\n i=1\nclass C:\n pass\n";
        allEnd(classes, ZERO, "Q(1/0)", "A(1/0)", "C(1/0)", "X(1/0)");
        allEnd(classes, NAME, "Q()", "Q(1)", "A(q)", "Q(q)");
        for (int limit = 2; limit <= 8; limit++) {
            Script s = new Script(limit, 200, 6);
            s.runs(classes + "a=X()\nn=1\nwhile n<" + limit + ":\n b=X()\n b.n=a\n a=b\n n=n+1\nb=0", DONE, 0);
            Script.due("all live", s.host.live(), limit);
            // One too many, before any look at i; but the argument and the letter come before it.
            for (String text : new String[] {"X()", "A(1)", "A()", "B()", "C(1)", "X(1)"}) {
                s.runs(text, MEMORY, s.host.lines() + 1);
            }
            s.runs("A(1/0)", ZERO, s.host.lines() + 1);
            s.runs("Q()", NAME, s.host.lines() + 1);
            s.runs("a=a.n\na.m=A(1)", DONE, 0);
            Script.due("all live again", s.host.live(), limit);
        }
    }

    private static void newObjectWithoutAttributes() {
        Script.sentence("an object without attributes is made");
        Script s = new Script(2, 20, 6);
        s.runs("class A:\n p=7\na=A()\na.p=1\na.q=2\na.r=3\na.s=4\nb=A()\nb.a=1\nb.b=1\nb.y=1\nb.z=1\na=0\nb=0", DONE, 0);
        s.runs("a=A()\nb=X()", DONE, 0);
        for (char name = 'a'; name <= 'z'; name++) {
            Script.due("a." + name, s.attribute('a', name), 0);
            Script.due("b." + name, s.attribute('b', name), 0);
        }
        Script.due("its class", s.variable('a'), Script.object(1));
        Script.due("the other's", s.variable('b'), Script.object(0));
        s.prints("print a.p\nprint a==b\nc=a\nprint c==a", 7, 0, 1);
    }

    private static void constructors() {
        Script.sentence("the order is searched for i: a value: TYPE; nothing: TYPE if there is an argument, else done; a method: called "
            + "as above with the new object");
        String before = "class A:\n def i(s,x):\n  s.p=x\nclass B:\n def i(s):\n  s.p=8\nclass C:\n i=1\nclass D:\n i=none\nclass E(A):\n"
            + " pass\nclass F(C):\n pass\nclass G(B):\n i=4";
        allEnd(before, TYPE, "C()", "C(1)", "D()", "F()", "F(1)", "G()", "X(1)", "X(none)", "A()", "B(1)", "E()");
        allEnd(before, DONE, "X()", "A(1)", "B()", "E(none)");
        Script s = new Script(8, 200, 2);
        s.prints(before + "\nprint A(3).p\nprint B().p\nprint E(5).p\nprint X()==none", 3, 8, 5, 0);
        // A call like others: steps, depth, errors in it.
        s.runs("class H:\n def i(s,x):\n  if x:\n   H(x-1)\n  else:\n   1/x\nn=0\nH(2)", DEPTH, s.host.lines() + 4);
        s.runs("H(1)", ZERO, s.host.lines() - 2);
        s.runs("try:\n h=H(0)\nexcept e:\n print e", DONE, 0);
        Script.due("h", s.variable('h'), 0);
        Script.due("e", s.variable('e'), Script.number(ZERO));
    }

    private static void answerOfAConstructor() {
        Script.sentence("its answer is dropped. The value is the new object.");
        Script s = new Script();
        s.runs("class A:\n def i(s,x):\n  if x==0:\n   return none\n  if x==1:\n   return 5\n  if x==2:\n   return X()\n  s=X()\n"
            + "  return s\nn=0\nwhile n<4:\n a=A(n)\n a.n=n\n print a.n\n n=n+1",
            DONE, 0);
        Script.due("a", s.variable('a'), Script.object(1));
        Script.due("what i answers is not held", s.host.live(), 1);
        Script.due("four", s.host.prints(), 4);
        // Called as a method, i answers.
        s.calls('a', 'i', 1, DONE, Script.number(5), 0);
        s.calls('a', 'i', 3, DONE, Script.object(0), 0);
    }

    // ---- Live objects ----

    private static void live(Script s, String text, int live) {
        s.runs(text, DONE, 0);
        Script.due("live after <" + text + ">", s.host.live(), live);
    }

    private static void heldByVariablesAndEntries() {
        Script.sentence("LIVE objects: those held by a global variable, an entry of any class");
        Script s = new Script(2, 200, 6);
        live(s, "X()", 0);
        live(s, "a=X()", 1);
        live(s, "z=a", 1);
        live(s, "a=0", 1);
        live(s, "a=X()", 2);
        s.runs("X()", MEMORY, 6);
        live(s, "a=z", 1);
        live(s, "a=none\nz=0", 0);
        live(s, "class A:\n a=X()\n z=X()\n", 2);
        s.runs("X()", MEMORY, s.host.lines() + 1);
        // The class needs no letter any more.
        live(s, "class A:\n pass", 2);
        s.runs("X()", MEMORY, s.host.lines() + 1);
        Script t = new Script(2, 200, 6);
        live(t, "n=0\nwhile n<8:\n class A:\n  pass\n n=n+1\nclass A:\n z=X()", 1);
        live(t, "a=X()", 2);
        t.runs("X()", MEMORY, t.host.lines() + 1);
        live(t, "A.z=A.z\nA.z=none", 1);
        live(t, "A.y=a\na=1", 1);
    }

    private static void heldByLocalsAndReceivers() {
        Script.sentence("a local variable or the receiver of an active call");
        Script s = new Script(2, 200, 6);
        live(s, "class A:\n def f(s,x):\n  y=X()\n  return s.g(x)\n def g(s,x):\n  return X()\n def h(s,x):\n  y=X()\n  y=0\n"
            + "  return X()\n def k(s):\n  s=0\n  return X()==X()\n def l(s,x):\n"
            + "  return X()==x\na=A()", 1);
        s.runs("a.f(1)", MEMORY, 6);
        s.calls('a', 'f', 1, MEMORY, 0, 6);
        live(s, "a.g(1)", 1);
        live(s, "a.h(1)", 1);
        s.calls('a', 'h', 1, DONE, Script.object(0), 0);
        Script.due("an answer is not held", s.host.live(), 1);
        // The receiver alone holds it, then the parameter alone.
        s.runs("a=A()\na=0\nA().k()", MEMORY, 13);
        live(s, "a=0\nA().g(1)", 0);
        live(s, "A().h(1)", 0);
        s.runs("A().l(X())", MEMORY, 15);
        Script t = new Script(2, 200, 6);
        t.runs("class A:\n def f(s,x):\n  x=X()\n  return s.g()\n def g(s):\n  pass\na=A()\na.f(1)", DONE, 0);
        Script.due("a call that has ended holds nothing", t.host.live(), 1);
    }

    private static void heldByOperandsAndArguments() {
        Script.sentence("an operand or argument already evaluated and not yet used");
        Script s = new Script(2, 200, 6);
        live(s, "X()==X()", 0);
        live(s, "(X()==X())==X()", 0);
        for (String text : new String[] {"X()==(X()==X())", "X().h(X()==X())", "X().p=X()==X()", "X()+(X()==X())", "X()-(X()-X())",
            "X()<(X()==X())"}) {
            s.runs(text, MEMORY, s.host.lines() + 1);
            Script.due("nothing is held after <" + text + ">", s.host.live(), 0);
        }
        live(s, "X().p=X()", 0);
        live(s, "class A:\n def i(s,x):\n  s.p=x\n def f(s,x):\n  x=0\n  s=0\n  return X()\na=A(X())", 2);
        // The argument of CLASS ( E ) is not yet used when the objects are counted.
        s.runs("a=0\na=A(A(X()))", MEMORY, s.host.lines() + 2);
        Script t = new Script(2, 200, 6);
        live(t, "class A:\n def i(s,x):\n  x=0\n  X()\n def f(s,x):\n  x=0\n  return X()\nA(X())", 0);
        t.runs("a=X()\nA(X())", MEMORY, t.host.lines() + 2);
        live(t, "a=0\nA(0).f(X())", 0);
        // The operands of a caller, while a method runs.
        live(t, "b=A(0)", 1);
        t.runs("X()==b.f(1)", MEMORY, 7);
        t.runs("b.f(1)==X()", MEMORY, t.host.lines() + 1);
        live(t, "b.f(1)==1", 1);
        // An error that is caught lets them go.
        t.prints("n=0\nwhile n<3:\n n=n+1\n try:\n  X()-1/0\n except e:\n  print e", ZERO, ZERO, ZERO);
    }

    private static void heldByTheCallThatMakesIt() {
        Script.sentence("or the call CLASS ( ) that is making it");
        Script s = new Script(2, 200, 6);
        s.runs("class A:\n def i(s):\n  s=0\n  X()==X()", DONE, 0);
        s.runs("A()", MEMORY, 4);
        Script.due("it is gone", s.host.live(), 0);
        Script t = new Script(2, 200, 6);
        live(t, "class A:\n def i(s):\n  s=0\n  X()==1\nA()", 0);
        live(t, "a=A()", 1);
        t.runs("A()", MEMORY, 4);
        Script.due("the object stays one", t.host.live(), 1);
        // Not so where i is called by its name: then the receiver holds it, and only as long.
        live(t, "a.i()\na=0\nA().i()", 0);
    }

    private static void heldByAttributes() {
        Script.sentence("and those held by attributes of live objects");
        Script s = new Script(8, 200, 6);
        live(s, "a=X()\nn=1\nwhile n<8:\n b=X()\n b.n=a\n a=b\n n=n+1\nb=0", 8);
        s.runs("X()", MEMORY, s.host.lines() + 1);
        live(s, "a.n.n.n.n.n.n.n.n=a", 8);
        live(s, "a.n.n.n.n.n.n=0", 6);
        live(s, "a.n.n.n.n.n.n=a\na=a.n.n", 6);
        // A ring that nothing else holds is not live.
        live(s, "a=0", 0);
        live(s, "a=X()\na.a=a\na.b=X()\na.y=a.b\na.z=X()\na.z.z=X()", 4);
        live(s, "a.z=0", 2);
        // Held by an attribute of an object that a local, an operand or an entry holds.
        Script t = new Script(2, 200, 6);
        live(t, "class A:\n def i(s):\n  s.p=X()\n def f(s):\n  s=0\n  return X()", 0);
        t.runs("A().f()", MEMORY, 6);
        t.runs("A()==X()", MEMORY, 8);
        live(t, "A.o=A()", 2);
        t.runs("X()", MEMORY, 10);
        live(t, "A.o.p=0\nX()", 1);
    }
}
