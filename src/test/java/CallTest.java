/** Promises 4, 5, 6, 8 and 9: the host's calls, their results and places, and what the host sees of variables. */
public final class CallTest {
    public static void main(String[] args) {
        refused();
        results();
        errors();
        stepsAndDepth();
        effects();
        resultsOfRuns();
        variables();
        attributes();
        Script.end();
    }

    private static void refused() {
        Script s = new Script();
        s.runs("class A:\n def a(s,x):\n  n=x\n  print x\n  return x\na=A()\nz=A()\nclass Z(A):\n def z(s,x):\n  return x*3\ny=Z()",
            HostedScript.DONE, 0);
        s.runs("raise 7", HostedScript.RAISED, 12);
        int[] bad = {-1, 26, Integer.MIN_VALUE, Integer.MAX_VALUE};
        for (int b : bad) {
            Script.due("call of variable " + b, s.host.call(b, 0, 5), HostedScript.REFUSED);
            Script.due("call of method " + b, s.host.call(0, b, 5), HostedScript.REFUSED);
            Script.due("call of both " + b, s.host.call(b, b, 5), HostedScript.REFUSED);
            Script.due("result stays", s.host.result(), Script.number(7));
            Script.due("place stays", s.host.place(), 12);
            Script.due("prints stay", s.host.prints(), 0);
        }
        s.calls('a', 'a', 5, HostedScript.DONE, Script.number(5), 0);
        s.calls('z', 'a', 6, HostedScript.DONE, Script.number(6), 0);
        s.calls('y', 'z', 6, HostedScript.DONE, Script.number(18), 0);
        Script.due("refused after DONE", s.host.call(26, 0, 1), HostedScript.REFUSED);
        Script.due("result of the last call", s.host.result(), Script.number(18));
    }

    private static void results() {
        Script s = new Script();
        s.runs("class A:\n def f(s,x):\n  return x\n def g(s,x):\n  return s\n def n(s,x):\n  pass\n def m(s,x):\n  return X()\n"
            + " def e(s,x):\n  return none\na=A()",
            HostedScript.DONE, 0);
        int[] values = {0, 1, -1, 1000, Integer.MAX_VALUE, Integer.MIN_VALUE};
        for (int v : values) {
            s.calls('a', 'f', v, HostedScript.DONE, Script.number(v), 0);
        }
        Script.due("-1 as a long", Script.number(-1), 3L * (1L << 32) - 1);
        s.calls('a', 'g', 1, HostedScript.DONE, Script.object(1), 0);
        s.calls('a', 'n', 1, HostedScript.DONE, Script.NONE, 0);
        s.calls('a', 'e', 1, HostedScript.DONE, Script.NONE, 0);
        s.calls('a', 'm', 1, HostedScript.DONE, Script.object(0), 0);
        Script.due("an answer holds no object", s.host.live(), 1);
        s.runs("pass", HostedScript.DONE, 0);
        Script.due("result of a run", s.host.result(), 0);
    }

    private static void errors() {
        Script s = new Script();
        s.runs("class A:\n v=3\n def f(s,x):\n  return q\n def g(s,x):\n  return 1/x\n def h(s,x):\n  raise x+1\n def k(s):\n  pass\n"
            + " def z(s,x):\n  return s.y(x)\n"
            + " def p(s,x):\n  print none\n def m(s,x):\n  s.a=1\n  s.b=1\n  s.c=1\n  s.d=1\n  s.e=1\na=A()\nb=1\nc=none\nd=A()\nd.g=1",
            HostedScript.DONE, 0);
        s.calls('x', 'f', 1, HostedScript.NAME, 0, 0);
        s.calls('b', 'f', 1, HostedScript.TYPE, 0, 0);
        s.calls('c', 'f', 1, HostedScript.TYPE, 0, 0);
        s.calls('a', 'o', 1, HostedScript.ATTR, 0, 0);
        s.calls('a', 'v', 1, HostedScript.TYPE, 0, 0);
        s.calls('a', 'k', 1, HostedScript.TYPE, 0, 0);
        s.calls('d', 'g', 1, HostedScript.TYPE, 0, 0);
        s.calls('a', 'f', 1, HostedScript.NAME, 0, 4);
        s.calls('a', 'g', 0, HostedScript.ZERO, 0, 6);
        s.calls('a', 'g', 1, HostedScript.DONE, Script.number(1), 0);
        s.calls('a', 'h', 4, HostedScript.RAISED, Script.number(5), 8);
        s.calls('a', 'h', -3, HostedScript.RAISED, Script.number(-2), 8);
        s.calls('a', 'z', 4, HostedScript.ATTR, 0, 12);
        s.calls('a', 'p', 4, HostedScript.TYPE, 0, 14);
        s.calls('a', 'm', 4, HostedScript.MEMORY, 0, 20);
        s.calls('a', 'q', 4, HostedScript.ATTR, 0, 0);
        Script t = new Script(2, 200, 6);
        t.runs("class A:\n def f(s,x):\n  return A()\na=A()\nb=A()", HostedScript.DONE, 0);
        t.calls('a', 'f', 1, HostedScript.MEMORY, 0, 3);
    }

    private static void stepsAndDepth() {
        Script s = new Script(8, 20, 2);
        s.runs("class A(X):\n def w(s,x):\n  while x:\n   x=x-1\n  return 5\n def r(s,x):\n  return s.r(x)\n def o(s,x):\n"
            + "  return s.p(x)\n def p(s,x):\n  return x\na=A()", HostedScript.DONE, 0);
        // x turns take 2x + 2 steps; each host call has all steps.
        s.calls('a', 'w', 9, HostedScript.DONE, Script.number(5), 0);
        s.calls('a', 'w', 9, HostedScript.DONE, Script.number(5), 0);
        s.calls('a', 'w', 10, HostedScript.STEPS, 0, 3);
        s.calls('a', 'r', 1, HostedScript.DEPTH, 0, 7);
        s.calls('a', 'o', 4, HostedScript.DONE, Script.number(4), 0);
        s.calls('a', 't', 4, HostedScript.DONE, Script.number(2), 0);
        s.runs("class B(A):\n def h(s,x):\n  while x:\n   x=x-1\n  return 5\nb=B()", HostedScript.DONE, 0);
        // t takes a step, h(4) ten, h(3) eight. With one turn more in each, the second loop's last turn is too much.
        s.calls('b', 't', 4, HostedScript.DONE, Script.number(0), 0);
        s.calls('b', 't', 5, HostedScript.STEPS, 0, 16);
        // The last call is h's with six calls, and t's with five: the host's line has the number 0.
        String turns = "class A(X):\n def h(s,x):\n  return s.t(x)\na=A()";
        Script t = new Script(8, 20, 6);
        t.runs(turns, HostedScript.DONE, 0);
        t.calls('a', 't', 1, HostedScript.DEPTH, 0, 3);
        t.calls('a', 'h', 1, HostedScript.DEPTH, 0, 0);
        Script u = new Script(8, 20, 5);
        u.runs(turns, HostedScript.DONE, 0);
        u.calls('a', 't', 1, HostedScript.DEPTH, 0, 0);
    }

    private static void effects() {
        Script s = new Script();
        s.runs("n=0\nclass A:\n def f(s,x):\n  print x\n  s.p=x\n  A.k=x+1\n  return n\n def g(s,x):\n  s.p=x\n  q\na=A()",
            HostedScript.DONE, 0);
        s.put("n=4\nprint");
        s.calls('a', 'f', 12, HostedScript.DONE, Script.number(0), 0);
        Script.due("printed", s.host.printed(0), 12);
        Script.due("attribute", s.attribute('a', 'p'), Script.number(12));
        Script.due("entry", s.entry(1, 'k'), Script.number(13));
        Script.due("lines", s.host.lines(), 11);
        Script.due("the pending chunk goes on", s.host.put(1008, 0, 0, 0), s.host.put(0, 0, 0, 0));
        Script.due("and runs", s.host.run(), HostedScript.DONE);
        Script.due("printed by it", s.host.printed(0), 8);
        s.calls('a', 'f', 1, HostedScript.DONE, Script.number(4), 0);
        s.calls('a', 'g', 99, HostedScript.NAME, 0, 10);
        Script.due("what was done stays", s.attribute('a', 'p'), Script.number(99));
    }

    private static void resultsOfRuns() {
        Script s = new Script();
        s.runs("raise 0-1", HostedScript.RAISED, 1);
        Script.due("code", s.host.result(), Script.number(-1));
        s.runs("1 1", HostedScript.WRONG, 2);
        Script.due("result of WRONG", s.host.result(), 0);
        s.runs("raise 3", HostedScript.RAISED, 2);
        s.runs("q", HostedScript.NAME, 3);
        Script.due("result of NAME", s.host.result(), 0);
        s.runs("raise 3", HostedScript.RAISED, 4);
        s.runs("while 1:\n pass", HostedScript.STEPS, 5);
        Script.due("result of STEPS", s.host.result(), 0);
        s.runs("raise 3", HostedScript.RAISED, 7);
        s.calls('q', 'f', 1, HostedScript.NAME, 0, 0);
    }

    private static void variables() {
        Script s = new Script();
        s.runs("a=5\nz=0-5\nb=none\nc=X()\nclass A:\n pass\nd=A()", HostedScript.DONE, 0);
        Script.due("a", s.host.variable(0), Script.number(5));
        Script.due("z", s.host.variable(25), Script.number(-5));
        Script.due("b", s.host.variable(1), Script.NONE);
        Script.due("c", s.host.variable(2), Script.object(0));
        Script.due("d", s.host.variable(3), Script.object(1));
        Script.due("e", s.host.variable(4), 0);
        int[] bad = {-1, 26, Integer.MIN_VALUE, Integer.MAX_VALUE};
        for (int b : bad) {
            Script.due("variable " + b, s.host.variable(b), 0);
        }
        s.runs("a=none\nd=d==d", HostedScript.DONE, 0);
        Script.due("a again", s.host.variable(0), Script.NONE);
        Script.due("d again", s.host.variable(3), Script.number(1));
    }

    private static void attributes() {
        Script s = new Script();
        s.runs("class A:\n k=4\n def m(s):\n  pass\na=A()\nz=A()\na.a=1\na.z=none\nz.a=a\nz.z=0-1\nb=1\nc=none", HostedScript.DONE, 0);
        Script.due("a.a", s.host.attribute(0, 0), Script.number(1));
        Script.due("a.z", s.host.attribute(0, 25), Script.NONE);
        Script.due("z.a", s.host.attribute(25, 0), Script.object(1));
        Script.due("z.z", s.host.attribute(25, 25), Script.number(-1));
        Script.due("a.k", s.attribute('a', 'k'), 0);
        Script.due("a.m", s.attribute('a', 'm'), 0);
        Script.due("a.b", s.attribute('a', 'b'), 0);
        Script.due("b.a", s.attribute('b', 'a'), 0);
        Script.due("c.a", s.attribute('c', 'a'), 0);
        Script.due("d.a", s.attribute('d', 'a'), 0);
        int[] bad = {-1, 26, Integer.MIN_VALUE, Integer.MAX_VALUE};
        for (int b : bad) {
            Script.due("attribute of " + b, s.host.attribute(b, 0), 0);
            Script.due("attribute " + b, s.host.attribute(0, b), 0);
        }
    }
}
