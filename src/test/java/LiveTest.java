/** Promise 15, and when an object can be made: which objects are live. */
public final class LiveTest {
    private static final String NODE = "class A:\n def i(s,x):\n  s.n=x\n def a(s,x):\n  return s\n def f(s,x):\n  return A(x)\n";

    public static void main(String[] args) {
        heldByVariables();
        heldByAttributes();
        heldByEntries();
        heldByLocals();
        heldByReceivers();
        heldByOperands();
        heldByArguments();
        heldWhileMade();
        afterErrors();
        afterCalls();
        Script.end();
    }

    private static void live(Script s, String text, int live) {
        s.runs(text, HostedScript.DONE, 0);
        Script.due("live after <" + text + ">", s.host.live(), live);
    }

    private static void heldByVariables() {
        Script s = new Script();
        Script.due("live at first", s.host.live(), 0);
        live(s, "X()", 0);
        live(s, "a=X()", 1);
        live(s, "b=a", 1);
        live(s, "a=none", 1);
        live(s, "a=X()", 2);
        live(s, "a=X()", 2);
        live(s, "b=1", 1);
        live(s, "a=1", 0);
        // Far more objects are made than the limit, but never held.
        live(s, "n=0\nwhile n<40:\n a=X()\n n=n+1", 1);
        // The old object is still held while the new one is made.
        Script t = new Script(2, 200, 6);
        live(t, "a=X()\nb=X()", 2);
        t.runs("a=X()", HostedScript.MEMORY, 3);
        live(t, "a=none\na=X()", 2);
    }

    private static void heldByAttributes() {
        Script s = new Script();
        live(s, NODE + "a=A(A(A(A(none))))", 4);
        live(s, "a=a.n", 3);
        live(s, "a.n.n.n=a", 3);
        live(s, "a.n.n=0", 2);
        live(s, "a=A(a)\na.n.n.n=a", 3);
        live(s, "a=0", 0);
        Script t = new Script(8, 200, 6);
        live(t, NODE + "a=A(A(A(A(none))))\nn=a\nwhile n.n:\n n=n.n\nn.n=A(A(A(A(none))))\nn=0", 8);
        t.runs("b=A(0)", HostedScript.MEMORY, 14);
        live(t, "a.n.n.n.n.n.n.n=0\nb=A(0)", 8);
    }

    private static void heldByEntries() {
        Script s = new Script(3, 200, 6);
        live(s, NODE + "class B:\n p=A(0)", 1);
        live(s, "B.q=A(A(0))", 3);
        s.runs("A(0)", HostedScript.MEMORY, 11);
        // A class that no letter names any more holds its entries too.
        live(s, "class B:\n pass", 3);
        s.runs("A(0)", HostedScript.MEMORY, 14);
        Script t = new Script(3, 200, 6);
        live(t, "class B:\n p=X()\nB.p=B.p", 1);
        live(t, "B.p=0", 0);
    }

    private static void heldByLocals() {
        Script s = new Script(2, 200, 6);
        live(s, "class A:\n def f(s,x):\n  y=X()\n  s.g(y)\n  return X()\n def g(s,x):\n  pass\n def h(s,x):\n  y=X()\n  y=1\n"
            + "  return X()\n def k(s,x):\n  x=1\n  return X()\na=A()", 1);
        s.runs("a.f(1)", HostedScript.MEMORY, 5);
        live(s, "b=a.h(1)", 2);
        live(s, "b=1", 1);
        // The argument is held by its parameter alone.
        live(s, "b=a.k(X())", 2);
        s.runs("b=0\nb=a.g(a.f(1))", HostedScript.MEMORY, 5);
        Script.due("locals are gone", s.host.live(), 1);
    }

    private static void heldByReceivers() {
        Script s = new Script(2, 200, 6);
        live(s, "class A:\n def f(s):\n  s=X()\n  return X()\n def g(s):\n  s=none\n  return X()\n def h(s):\n  return X()", 0);
        s.runs("A().f()", HostedScript.MEMORY, 4);
        live(s, "a=A().g()", 1);
        s.runs("A().g()", HostedScript.MEMORY, 7);
        s.runs("A().h()", HostedScript.MEMORY, 9);
        live(s, "a=0\na=A().h()", 1);
    }

    private static void heldByOperands() {
        Script s = new Script(2, 200, 6);
        live(s, "X()==X()", 0);
        s.runs("X()==(X()==X())", HostedScript.MEMORY, 2);
        live(s, "(X()==X())==X()", 0);
        s.runs("X().h(X()==X())", HostedScript.MEMORY, 4);
        s.runs("X().p=X()==X()", HostedScript.MEMORY, 5);
        live(s, "X().p=X()", 0);
        s.runs("X()-(X()-X())", HostedScript.MEMORY, 7);
        s.runs("X()-X()", HostedScript.TYPE, 8);
        // Across a call: the caller's operand is held while the method makes its own.
        live(s, "class A:\n def f(s):\n  return X()==X()\n def a(s,x):\n  return X()\na=A()", 1);
        s.runs("X()==a.f()", HostedScript.MEMORY, 11);
        s.runs("a.f()", HostedScript.MEMORY, 11);
        live(s, "a+1", 1);
        s.runs("a+X()", HostedScript.MEMORY, 13);
        live(s, "a=0\nA()+1", 0);
    }

    private static void heldByArguments() {
        Script s = new Script(2, 200, 6);
        live(s, NODE + "a=A(X())", 2);
        s.runs("a=0\na=A(A(X()))", HostedScript.MEMORY, 10);
        Script.due("nothing is held after it", s.host.live(), 0);
        // The argument is live when the object is made, even if i lets it go.
        Script t = new Script(2, 200, 6);
        live(t, "class A:\n def i(s,x):\n  x=0\n  s.p=X()\na=A(X())", 2);
        t.runs("A(a)", HostedScript.MEMORY, 6);
        t.runs("a.p=0\nA(a)", HostedScript.MEMORY, 4);
    }

    private static void heldWhileMade() {
        Script s = new Script(2, 200, 6);
        // In i the new object is held, whatever becomes of its parameter.
        live(s, "class A:\n def i(s):\n  s=0\n  X()==1\nA()", 0);
        live(s, "a=A()", 1);
        s.runs("A()", HostedScript.MEMORY, 4);
        Script t = new Script(2, 200, 6);
        t.runs("class A:\n def i(s):\n  s=0\n  X()==X()\nA()", HostedScript.MEMORY, 4);
        // An object that could not be made whole is gone.
        live(t, "try:\n a=A()\nexcept e:\n pass", 0);
        Script u = new Script(2, 200, 6);
        live(u, "class A:\n i=1\ntry:\n A()\nexcept e:\n print e", 0);
        live(u, "a=X()\nb=X()\na=0", 1);
        u.runs("A(X())", HostedScript.MEMORY, 10);
        u.runs("b=0\nA(X())", HostedScript.TYPE, 12);
    }

    private static void afterErrors() {
        Script s = new Script(4, 200, 6);
        s.runs("class A:\n def f(s,x):\n  y=X()\n  1/0\na=A()\na.f(X())", HostedScript.ZERO, 4);
        Script.due("live after an error", s.host.live(), 1);
        // What a caught error leaves behind is not held: an operand, an argument and a local each time.
        s.prints("n=0\nwhile n<5:\n n=n+1\n try:\n  X()==a.f(X())\n except e:\n  print e", 5, 5, 5, 5, 5);
        live(s, "try:\n X()-(X()-q)\nexcept e:\n pass", 1);
        live(s, "b=X()\nc=X()\nd=X()", 4);
        s.runs("f=X()", HostedScript.MEMORY, 21);
        s.runs("while 1:\n b=0\n c=X()", HostedScript.STEPS, 24);
        Script.due("live after STEPS", s.host.live(), 3);
        s.runs("q q", HostedScript.WRONG, 25);
        Script.due("live after WRONG", s.host.live(), 3);
    }

    private static void afterCalls() {
        Script s = new Script(3, 200, 6);
        live(s, "class A:\n def f(s,x):\n  s.p=X()\n  return X()\n def g(s,x):\n  y=X()\n  raise 1\na=A()", 1);
        s.calls('a', 'f', 1, HostedScript.DONE, Script.object(0), 0);
        Script.due("live after a call", s.host.live(), 2);
        s.calls('a', 'f', 1, HostedScript.DONE, Script.object(0), 0);
        Script.due("live after another", s.host.live(), 2);
        s.calls('a', 'g', 1, HostedScript.RAISED, Script.number(1), 7);
        Script.due("live after an error of a call", s.host.live(), 2);
        live(s, "b=X()", 3);
        s.calls('a', 'f', 1, HostedScript.MEMORY, 0, 3);
        Script.due("live after MEMORY", s.host.live(), 3);
    }
}
