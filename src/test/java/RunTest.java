/** Promise 3 (with 6, 7, 8): lines, expressions, errors and steps when a right chunk is run. */
public final class RunTest {
    public static void main(String[] args) {
        arithmetic();
        comparing();
        truth();
        branches();
        loops();
        names();
        attributes();
        errorsAndPlaces();
        tries();
        nestedTries();
        deepBlocks();
        steps();
        stepsAreNotCaught();
        chunksLiveOn();
        Script.end();
    }

    private static void arithmetic() {
        Script s = new Script();
        s.prints("print 1+2*3-4/2\nprint (1+2)*3\nprint 10-3-2\nprint 100/5/2\nprint 2*3/4", 5, 9, 5, 10, 1);
        s.prints("a=0-7\nprint a/2\nprint 7/2\nprint a/(0-2)\nprint 7/(0-2)\nprint a/7\nprint 0/3", -4, 3, 3, -4, -1, 0);
        s.prints("b=2147482647+1000\nprint b\nprint b+1\nprint 0-b-1", Integer.MAX_VALUE, Integer.MIN_VALUE, Integer.MIN_VALUE);
        s.prints("c=b+1\nprint c/(0-1)\nprint c-1\nprint b*b\nprint c*c\nprint c/b", Integer.MIN_VALUE, Integer.MAX_VALUE, 1, 0, -2);
        s.runs("1/0", HostedScript.ZERO, 23);
        s.runs("none/0", HostedScript.TYPE, 24);
        s.runs("1/none", HostedScript.TYPE, 25);
        for (String text : new String[] {"none+1", "1+none", "1-none", "none*1", "none<1", "1<none", "1+X()", "X()-1", "X()*X()", "X()<1",
            "none+none", "1/X()"}) {
            Script t = new Script();
            t.runs(text, HostedScript.TYPE, 1);
        }
        // Both operands are evaluated before they are looked at.
        new Script().runs("none+q", HostedScript.NAME, 1);
        new Script().runs("q+1/0", HostedScript.NAME, 1);
        new Script().runs("1/0+q", HostedScript.ZERO, 1);
        new Script().runs("q.a(1/0)", HostedScript.NAME, 1);
        new Script().runs("1.a(1/0)", HostedScript.ZERO, 1);
    }

    private static void comparing() {
        Script s = new Script();
        s.prints("print 1<2\nprint 2<2\nprint 3<2\nprint 0-1<0", 1, 0, 0, 1);
        s.prints("print 1==1\nprint 1==2\nprint none==none\nprint none==0\nprint 0==none", 1, 0, 1, 0, 0);
        s.prints("a=X()\nb=X()\nc=a\nprint a==a\nprint a==b\nprint a==c\nprint a==0\nprint none==a", 1, 0, 1, 0, 0);
        s.prints("print 1+1==2\nprint (1<2)==(3<4)\nprint 2*3<3+4", 1, 1, 1);
    }

    private static void truth() {
        Script s = new Script();
        s.prints("if 0:\n print 1\nelse:\n print 2\nif none:\n print 3\nelse:\n print 4\nif 0-1:\n print 5\nif X():\n print 6", 2, 4, 5, 6);
        s.prints("while none:\n print 1\nwhile 0:\n print 2\nn=0-2\nwhile n:\n print n\n n=n+1", -2, -1);
    }

    private static void branches() {
        Script s = new Script();
        s.prints("if 1:\n print 1\nelse:\n print 2\nprint 3", 1, 3);
        s.prints("if 0:\n print 1\nelse:\n print 2\nprint 3", 2, 3);
        s.prints("if 0:\n print 1\nprint 3", 3);
        s.prints("if 1:\n if 0:\n  print 1\nelse:\n print 2\nprint 3", 3);
        s.prints("if 1:\n if 0:\n  print 1\n else:\n  print 4\nelse:\n print 2\nprint 3", 4, 3);
        s.prints("if 0:\n if 0:\n  print 1\n else:\n  print 4\nelse:\n if 0:\n  print 2\n else:\n  print 5", 5);
        s.prints("if 1:\n if 1:\n  if 1:\n   print 1\n  else:\n   print 2\n else:\n  print 3\nelse:\n print 4\nprint 5", 1, 5);
    }

    private static void loops() {
        Script s = new Script();
        s.prints("n=0\nwhile n<3:\n n=n+1\n print n\nprint 9", 1, 2, 3, 9);
        s.prints("n=0\nwhile n<2:\n m=0\n while m<2:\n  print n*10+m\n  m=m+1\n n=n+1", 0, 1, 10, 11);
        s.prints("n=0\nwhile n<3:\n n=n+1\n if n==2:\n  print 2\n else:\n  print 0\nprint 7", 0, 2, 0, 7);
        s.prints("n=0\nwhile n<2:\n n=n+1\n try:\n  1/(n-1)\n  print n\n except e:\n  print e", 5, 2);
        // A loop inside a method, left by return.
        s.prints("class A:\n def f(v,x):\n  while 1:\n   x=x+1\n   if x==4:\n    return x\na=A()\nprint a.f(0)\nprint a.f(3)", 4, 4);
    }

    private static void names() {
        new Script().runs("a", HostedScript.NAME, 1);
        new Script().runs("a=a", HostedScript.NAME, 1);
        Script s = new Script();
        s.runs("x=1\ny=none\nz=X()\ny=y", HostedScript.DONE, 0);
        Script.due("x", s.variable('x'), Script.number(1));
        Script.due("y", s.variable('y'), Script.NONE);
        Script.due("z", s.variable('z'), Script.object(0));
        // A parameter, a name that is set and the name of an except line are local; all others are global.
        s.runs("class A:\n def f(v,x):\n  if 0:\n   y=1\n  return y\n def g(v):\n  return x\n def h(v):\n  try:\n   1/0\n  except z:\n"
            + "   return z"
            + "\n def k(v,x):\n  x=x+1\n  y=x\n  return y*10\n def m(v):\n  if 0:\n   try:\n    pass\n   except x:\n    pass\n"
            + "  return x\na=A()",
            HostedScript.DONE, 0);
        s.runs("a.f(1)", HostedScript.NAME, 9);
        s.prints("print a.g()\nprint a.h()\nprint a.k(4)\nprint x", 1, 5, 50, 1);
        s.runs("a.m()", HostedScript.NAME, 27);
        Script.due("x stays", s.variable('x'), Script.number(1));
        Script.due("y stays", s.variable('y'), Script.NONE);
        Script.due("z stays", s.variable('z'), Script.object(0));
        // Each call has its own.
        Script t = new Script();
        t.prints("class A:\n def f(v,n):\n  k=n\n  if n:\n   v.f(n-1)\n  return k*10+n\na=A()\nprint a.f(3)", 33);
        // A call at the same depth leaves nothing behind, from the first letter to the last.
        Script w = new Script();
        w.runs("class A:\n def f(s):\n  a=1\n  z=1\n def g(s):\n  if 0:\n   a=1\n  return a\n def h(s):\n  if 0:\n   z=1\n  return z\n"
            + "a=A()", HostedScript.DONE, 0);
        w.runs("a.f()\na.g()", HostedScript.NAME, 8);
        w.runs("a.f()\na.h()", HostedScript.NAME, 12);
        // Lines of a class block set entries, but its names are global.
        new Script().runs("class A:\n x=1\n y=x", HostedScript.NAME, 3);
        Script u = new Script();
        u.runs("x=5\nclass A:\n x=1\n y=x", HostedScript.DONE, 0);
        Script.due("y of A", u.entry(1, 'y'), Script.number(5));
        Script.due("x of A", u.entry(1, 'x'), Script.number(1));
        Script.due("global x", u.variable('x'), Script.number(5));
    }

    private static void attributes() {
        Script s = new Script();
        s.runs("class A:\n k=7\n def m(v):\n  pass\na=A()\na.p=1\na.q=none\na.r=a\na.s=A()\na.p=2", HostedScript.DONE, 0);
        Script.due("p", s.attribute('a', 'p'), Script.number(2));
        Script.due("q", s.attribute('a', 'q'), Script.NONE);
        Script.due("r", s.attribute('a', 'r'), Script.object(1));
        Script.due("s", s.attribute('a', 's'), Script.object(1));
        Script.due("k is no own attribute", s.attribute('a', 'k'), 0);
        s.runs("a.t=1", HostedScript.MEMORY, 11);
        s.runs("a.k=1", HostedScript.MEMORY, 12);
        s.prints("a.s=3\nprint a.s+a.r.r.p+a.k", 12);
        s.runs("print a.z", HostedScript.ATTR, 15);
        s.runs("print a.m", HostedScript.TYPE, 16);
        s.runs("b=A()\nb.m=4\nprint b.m", HostedScript.DONE, 0);
        s.runs("b.m()", HostedScript.TYPE, 20);
        s.prints("b.k=8\nprint b.k\nprint a.k", 8, 7);
        s.runs("1.p", HostedScript.TYPE, 24);
        s.runs("none.p", HostedScript.TYPE, 25);
        s.runs("1.p=1", HostedScript.TYPE, 26);
        s.runs("none.p=1", HostedScript.TYPE, 27);
        // The postfix first, then the expression, then the tests.
        s.runs("q.p=1/0", HostedScript.NAME, 28);
        s.runs("1.p=1/0", HostedScript.ZERO, 29);
        s.runs("a.p.p=q", HostedScript.NAME, 30);
        s.runs("a.z.p=q", HostedScript.ATTR, 31);
        s.runs("a.t=q", HostedScript.NAME, 32);
    }

    private static void errorsAndPlaces() {
        Script s = new Script();
        s.runs("print none", HostedScript.TYPE, 1);
        s.runs("print X()", HostedScript.TYPE, 2);
        s.runs("raise none", HostedScript.TYPE, 3);
        s.runs("raise X()", HostedScript.TYPE, 4);
        s.runs("pass\nraise 0-5", HostedScript.RAISED, 6);
        Script.due("code", s.host.result(), Script.number(-5));
        s.runs("pass", HostedScript.DONE, 0);
        Script.due("no code", s.host.result(), 0);
        s.runs("raise 2", HostedScript.RAISED, 8);
        Script.due("code 2", s.host.result(), Script.number(2));
        s.runs("q", HostedScript.NAME, 9);
        Script.due("no code after NAME", s.host.result(), 0);
        s.runs("a=1\nb=2\n1/0\nb=3", HostedScript.ZERO, 12);
        Script.due("what was done stays", s.variable('b'), Script.number(2));
        s.runs("if q:\n pass", HostedScript.NAME, 14);
        s.runs("while 1/0:\n pass", HostedScript.ZERO, 16);
        // In a method: its line. The tests of a call: the caller's line.
        s.runs("class A:\n def f(v,x):\n  pass\n  return 1/x\n def g(v,x):\n  return v.f(x)\n def h(v):\n  return v.z(1)\na=A()",
            HostedScript.DONE, 0);
        s.runs("a.g(0)", HostedScript.ZERO, 21);
        s.runs("a.g()", HostedScript.TYPE, 28);
        s.runs("a.h(1)", HostedScript.TYPE, 29);
        s.runs("a.h()", HostedScript.ATTR, 25);
        s.runs("a.z(1)", HostedScript.ATTR, 31);
        s.runs("q.z(1)", HostedScript.NAME, 32);
        s.runs("1.z(1)", HostedScript.TYPE, 33);
        s.runs("pass\n\na.g(none)", HostedScript.TYPE, 21);
        s.runs("Q.z", HostedScript.NAME, 37);
        s.runs("Q()", HostedScript.NAME, 38);
        s.runs("Q(1/0)", HostedScript.ZERO, 39);
        s.runs("Q.z=1/0", HostedScript.ZERO, 40);
        s.runs("Q.z=1", HostedScript.NAME, 41);
    }

    private static void tries() {
        Script s = new Script();
        s.prints("class A:\n def f(v,x):\n  return v.f(x)\n def r(v,x):\n  raise x\na=A()\nb=A()\nb.p=0\nb.q=0\nb.r=0\nb.s=0\npass");
        String[] texts = {"q", "print none", "a.z", "1/0", "a.f(1)", "b.t=1", "raise 77", "a.r(0-3)", "raise 0", "raise none"};
        int[] codes = {2, 3, 4, 5, 6, 7, 77, -3, 0, 3};
        for (int at = 0; at < texts.length; at++) {
            s.prints("try:\n " + texts[at] + "\n print 1000\nexcept e:\n print e\nprint 1", codes[at], 1);
            Script.due("code of " + texts[at], s.variable('e'), Script.number(codes[at]));
            Script.due("result after a caught error", s.host.result(), 0);
        }
        s.prints("try:\n print 1\nexcept y:\n print 2\nprint 3", 1, 3);
        Script.due("y is not set", s.variable('y'), 0);
    }

    private static void nestedTries() {
        Script s = new Script();
        s.prints("try:\n try:\n  raise 1\n except e:\n  print e\n  raise e+1\n print 50\nexcept e:\n print e+10", 1, 12);
        s.prints("try:\n try:\n  pass\n except e:\n  print 9\n raise 5\nexcept e:\n print e", 5);
        s.runs("try:\n raise 1\nexcept e:\n pass\n raise 8", HostedScript.RAISED, 22);
        Script.due("raised in an except block", s.host.result(), Script.number(8));
        s.prints("try:\n if 1:\n  while 1:\n   if 1:\n    raise 4\nexcept e:\n print e", 4);
        s.prints("try:\n try:\n  raise 1\n except e:\n  pass\nexcept f:\n print 9\nprint e", 1);
        // A method's own try comes before the caller's.
        s.prints("class A:\n def f(v,x):\n  try:\n   return v.g(x)\n  except e:\n   return e+100\n def g(v,x):\n  raise x\na=A()\n"
            + "try:\n print a.f(3)+a.f(4)\n a.g(5)\nexcept e:\n print e", 207, 5);
        s.prints("try:\n class B:\n  x=1\n  y=q\n  z=2\nexcept e:\n print e", 2);
        Script.due("the class is made", s.named('B'), 2);
        Script.due("x is set", s.entry(2, 'x'), Script.number(1));
        Script.due("z is not", s.entry(2, 'z'), 0);
        // A method's except name is its own.
        s.runs("e=0", HostedScript.DONE, 0);
        s.runs("a.f(1)", HostedScript.DONE, 0);
        Script.due("global e", s.variable('e'), Script.number(0));
        // return leaves a try.
        s.prints("class C:\n def f(v):\n  try:\n   return 1\n  except e:\n   return 2\n  return 3\nc=C()\nprint c.f()", 1);
    }

    private static void deepBlocks() {
        Script s = new Script();
        s.prints("n=0\nwhile n<2:\n if 1:\n  if 1:\n   try:\n    if 1:\n     if 1:\n      if 1:\n       n=n+1\n      else:\n       pass\n"
            + "     else:\n      pass\n    else:\n     pass\n   except e:\n    pass\n  else:\n   pass\n else:\n  pass\nprint n", 2);
        s.prints("if 1:\n if 1:\n  if 1:\n   if 1:\n    if 1:\n     if 1:\n      if 1:\n       if 1:\n        print 1\n       else:\n"
            + "        pass\n"
            + "      else:\n       pass\n     else:\n      pass\n    else:\n     pass\n   else:\n    pass\n  else:\n   pass\n else:\n"
            + "  pass\nelse:\n pass\n"
            + "print 2", 1, 2);
        s.prints("try:\n if 1:\n  if 1:\n   if 1:\n    if 1:\n     if 1:\n      if 1:\n       if 1:\n        raise 6\nexcept e:\n"
            + " print e", 6);
    }

    private static void steps() {
        // 20 steps: a class line, a def line, a try line, if lines and all lines that open nothing take one.
        Script s = new Script(8, 20, 6);
        s.runs("pass\n".repeat(20) + "\n\npass", HostedScript.STEPS, 23);
        s.runs("pass\n".repeat(20), HostedScript.DONE, 0);
        s.runs("\n".repeat(50), HostedScript.DONE, 0);
        Script t = new Script(8, 20, 6);
        t.runs("class A:\n def f(v):\n  pass\n a=1\ntry:\n if 0:\n  pass\n else:\n  raise 1\nexcept e:\n pass\nif 1:\n pass\nelse:\n pass\n"
            + "while 0:\n pass\nn=0\nwhile n<3:\n n=n+1\nprint n\nprint n\nprint n\n", HostedScript.STEPS, 23);
        Script.due("two prints", t.host.prints(), 2);
        // A call's lines count, and the line after a call is the next.
        Script u = new Script(8, 20, 6);
        u.runs("class A:\n def f(v):\n  pass\n  pass\n  return 1\na=A()\na.f()+a.f()+a.f()+a.f()+a.f()\npass\npass", HostedScript.STEPS, 9);
        u.runs("a.f()+a.f()+a.f()+a.f()+a.f()+a.f()\na.f()", HostedScript.STEPS, 3);
        Script.due("result after STEPS", u.host.result(), 0);
        // The while line is reached once more when its block ends.
        Script w = new Script(8, 20, 6);
        w.runs("n=0\nwhile n<9:\n n=n+1", HostedScript.DONE, 0);
        w.runs("n=0\nwhile n<9:\n n=n+1\npass", HostedScript.STEPS, 7);
        w.runs("n=0\npass\nwhile n<9:\n n=n+1", HostedScript.STEPS, 10);
        // The host's lines have the number 0.
        Script h = new Script(8, 20, 6);
        h.runs("x=X()\nwhile 1:\n x.t(1)", HostedScript.STEPS, 0);
        h.runs("x.h(none)", HostedScript.TYPE, 0);
        h.runs("x.t(none)", HostedScript.TYPE, 0);
        h.runs("x.t()", HostedScript.TYPE, 6);
    }

    private static void stepsAreNotCaught() {
        Script s = new Script(8, 20, 6);
        s.runs("try:\n while 1:\n  pass\nexcept e:\n print 1", HostedScript.STEPS, 3);
        Script.due("nothing printed", s.host.prints(), 0);
        Script.due("e is not set", s.variable('e'), 0);
        // The error is caught, but the except block's line is one step too many.
        s.runs("pass\n".repeat(18) + "try:\n raise 3\nexcept e:\n print 1", HostedScript.STEPS, 5 + 22);
        Script.due("the code is set before the step", s.variable('e'), Script.number(3));
        s.runs("pass\n".repeat(17) + "try:\n raise 4\nexcept e:\n pass\n print 1", HostedScript.STEPS, 27 + 22);
        Script.due("e is set", s.variable('e'), Script.number(4));
    }

    private static void chunksLiveOn() {
        Script s = new Script();
        s.runs("class A:\n def f(v,x):\n  return x+n\nn=1\na=A()", HostedScript.DONE, 0);
        s.prints("print a.f(1)\nn=5", 2);
        s.prints("print a.f(1)", 6);
        s.runs("class A:\n def f(v,x):\n  return 0\nb=A()", HostedScript.DONE, 0);
        s.prints("print a.f(1)\nprint b.f(1)", 6, 0);
    }
}
