/** Promises 10, 11 and 12, and the classes of promise 3: entries, orders, searching, super and the host's class. */
public final class ClassTest {
    public static void main(String[] args) {
        entries();
        settingEntries();
        orders();
        failingOrders();
        letters();
        tooMany();
        classErrors();
        searching();
        calls();
        plus();
        superCalls();
        making();
        hostClass();
        hostMethodT();
        hostLetter();
        outOfRange();
        Script.end();
    }

    private static void entries() {
        Script s = new Script();
        s.runs("class A:\n a=1\n b=none\n c=A()\n def d(s):\n  pass\n e=2\n e=3\n def a(s):\n  pass\n def f(s):\n  pass\n f=4\n pass",
            HostedScript.DONE, 0);
        Script.due("a value that became a method", s.entry(1, 'a'), Script.METHOD);
        Script.due("none", s.entry(1, 'b'), Script.NONE);
        Script.due("an object", s.entry(1, 'c'), Script.object(1));
        Script.due("a method", s.entry(1, 'd'), Script.METHOD);
        Script.due("set twice", s.entry(1, 'e'), Script.number(3));
        Script.due("a method that became a value", s.entry(1, 'f'), Script.number(4));
        Script.due("no entry", s.entry(1, 'g'), 0);
        s.runs("class B(A):\n g=0-1", HostedScript.DONE, 0);
        Script.due("own entries alone", s.entry(2, 'e'), 0);
        Script.due("a negative int", s.entry(2, 'g'), Script.number(-1));
        s.prints("print B.e\nprint B.f\nprint B.g\nprint B().e\nprint A.c==B.c", 3, 4, -1, 3, 1);
    }

    private static void settingEntries() {
        Script s = new Script();
        s.runs("class A:\n def f(s):\n  return 1\nclass B(A):\n pass\nA.p=5\nB.q=A()\nA.f=2", HostedScript.DONE, 0);
        Script.due("p of A", s.entry(1, 'p'), Script.number(5));
        Script.due("p of B", s.entry(2, 'p'), 0);
        Script.due("q of B", s.entry(2, 'q'), Script.object(1));
        Script.due("f of A", s.entry(1, 'f'), Script.number(2));
        s.runs("X.p=1", HostedScript.TYPE, 9);
        s.runs("X.h=1", HostedScript.TYPE, 10);
        Script.due("p of X", s.entry(0, 'p'), 0);
        s.runs("X.h=q", HostedScript.NAME, 11);
        s.runs("Q.h=1", HostedScript.NAME, 12);
        s.runs("A.z", HostedScript.ATTR, 13);
        s.runs("X.h", HostedScript.TYPE, 14);
        s.runs("class C:\n def f(s):\n  C.f=3\n  return 4\nc=C()\nprint c.f()\nprint c.f", HostedScript.DONE, 0);
        s.runs("c.f()", HostedScript.TYPE, 22);
    }

    private static void orders() {
        Script s = new Script();
        s.runs("class A:\n pass\nclass B(A):\n pass\nclass C(A):\n pass\nclass D(B,C):\n pass\nclass E(D,X):\n pass\nclass F(X,D):\n pass\n"
            + "class G(E):\n pass\nclass H(C,X):\n pass", HostedScript.DONE, 0);
        s.order(0, 0);
        s.order(1, 1);
        s.order(2, 2, 1);
        s.order(3, 3, 1);
        s.order(4, 4, 2, 3, 1);
        s.order(5, 5, 4, 2, 3, 1, 0);
        s.order(6, 6, 0, 4, 2, 3, 1);
        s.order(7, 7, 5, 4, 2, 3, 1, 0);
        s.order(8, 8, 3, 1, 0);
        s.order(9);
        // The longest order: each class on the one before, and all ten.
        Script t = new Script();
        t.runs("class A(X):\n pass\nn=0\nwhile n<8:\n class A(A):\n  pass\n n=n+1", HostedScript.DONE, 0);
        t.order(9, 9, 8, 7, 6, 5, 4, 3, 2, 1, 0);
        Script.due("named after all", t.named('A'), 9);
        t.runs("class B(A):\n pass", HostedScript.MEMORY, 8);
        t.runs("class B(A,X):\n pass", HostedScript.MEMORY, 10);
        t.runs("class B(X,A):\n pass", HostedScript.TYPE, 12);
    }

    private static void failingOrders() {
        Script s = new Script();
        s.runs("class A:\n pass\nclass B(A):\n pass", HostedScript.DONE, 0);
        s.runs("class C(A,A):\n pass", HostedScript.TYPE, 5);
        s.runs("class C(A,B):\n pass", HostedScript.TYPE, 7);
        s.runs("class C(B,A):\n pass", HostedScript.DONE, 0);
        s.order(3, 3, 2, 1);
        // Two bases that disagree.
        s.runs("class P:\n pass\nclass Q:\n pass\nclass R(P,Q):\n pass\nclass S(Q,P):\n pass", HostedScript.DONE, 0);
        s.runs("class T(R,S):\n pass", HostedScript.TYPE, 19);
        Script.due("no class is made", s.named('T'), -1);
        s.order(8);
        s.runs("class T(R,P):\n pass", HostedScript.DONE, 0);
        s.order(8, 8, 6, 4, 5);
    }

    private static void letters() {
        Script s = new Script();
        s.runs("class A:\n k=1\na=A()\nclass A:\n k=2\nb=A()\nclass A(A):\n pass\nc=A()", HostedScript.DONE, 0);
        Script.due("A", s.named('A'), 3);
        Script.due("a", s.variable('a'), Script.object(1));
        Script.due("b", s.variable('b'), Script.object(2));
        Script.due("c", s.variable('c'), Script.object(3));
        s.order(3, 3, 2);
        s.prints("print a.k\nprint b.k\nprint c.k", 1, 2, 2);
        // A class line that runs again makes another class, with methods at home there.
        Script t = new Script();
        t.runs("n=0\nwhile n<2:\n class A(X):\n  k=n\n  def h(s,x):\n   return super.h(x)+s.k\n if n:\n  b=A()\n else:\n  a=A()\n n=n+1",
            HostedScript.DONE, 0);
        Script.due("k of the first", t.entry(1, 'k'), Script.number(0));
        Script.due("k of the second", t.entry(2, 'k'), Script.number(1));
        t.prints("print a.h(5)\nprint b.h(5)", 10, 11);
    }

    private static void tooMany() {
        Script s = new Script();
        s.runs("n=0\nwhile 1:\n class A:\n  k=n\n n=n+1", HostedScript.MEMORY, 3);
        Script.due("classes made", s.variable('n'), Script.number(9));
        Script.due("the last", s.entry(9, 'k'), Script.number(8));
        Script.due("A", s.named('A'), 9);
        s.runs("class B:\n pass", HostedScript.MEMORY, 6);
        Script.due("B", s.named('B'), -1);
        s.runs("class B(Q):\n pass", HostedScript.NAME, 8);
        s.runs("class B(A,A):\n pass", HostedScript.TYPE, 10);
        s.order(9, 9);
        s.order(10);
    }

    private static void classErrors() {
        Script s = new Script();
        s.runs("class A(Q):\n pass", HostedScript.NAME, 1);
        s.runs("class A(A):\n pass", HostedScript.NAME, 3);
        s.runs("class A(X,Q):\n pass", HostedScript.NAME, 5);
        s.runs("class A(Q,X):\n pass", HostedScript.NAME, 7);
        s.runs("class A(Q,Q):\n pass", HostedScript.NAME, 9);
        Script.due("A", s.named('A'), -1);
        s.runs("class A:\n a=1\n b=1/0\n c=1", HostedScript.ZERO, 13);
        Script.due("A is made", s.named('A'), 1);
        Script.due("a", s.entry(1, 'a'), Script.number(1));
        Script.due("c", s.entry(1, 'c'), 0);
    }

    private static void searching() {
        Script s = new Script();
        s.runs("class A:\n p=1\n q=1\n r=1\n s=1\nclass B(A):\n q=2\n s=2\nclass C(A):\n q=3\n r=3\nclass D(B,C):\n pass\nd=D()\nd.p=9",
            HostedScript.DONE, 0);
        s.prints("print d.p*1000+d.q*100+d.r*10+d.s", 9232);
        s.prints("print D.p*1000+D.q*100+D.r*10+D.s", 1232);
        s.prints("A.z=7\nprint d.z\nC.z=8\nprint d.z\nd.z=9\nprint d.z", 7, 8, 9);
        // The first entry found counts, whatever it is.
        s.runs("class E(A):\n def q(v):\n  return 5\ne=E()", HostedScript.DONE, 0);
        s.runs("e.q", HostedScript.TYPE, 28);
        s.prints("print e.q()", 5);
        s.runs("e.p()", HostedScript.TYPE, 30);
        s.runs("e.p(1)", HostedScript.TYPE, 31);
        s.runs("E.q", HostedScript.TYPE, 32);
    }

    private static void calls() {
        Script s = new Script();
        s.runs("class A:\n def f(s):\n  return 1\n def g(s,x):\n  return x*2\n def n(s):\n  pass\n def w(s):\n  if 0:\n   return 1\n"
            + " def s(a,b):\n  a=b\n  return a\na=A()\nm=none", HostedScript.DONE, 0);
        s.prints("print a.f()\nprint a.g(4)\nprint a.n()==none\nprint a.w()==none\nprint a.s(6)\nprint a.s(a)==a", 1, 8, 1, 1, 6, 1);
        s.runs("a.f(1)", HostedScript.TYPE, 22);
        s.runs("a.g()", HostedScript.TYPE, 23);
        s.runs("m.f()", HostedScript.TYPE, 24);
        s.runs("1.f()", HostedScript.TYPE, 25);
        s.runs("a.z()", HostedScript.ATTR, 26);
        s.runs("a.f=1\na.f()", HostedScript.TYPE, 28);
        s.runs("a.g(q)", HostedScript.NAME, 29);
        s.runs("a.z(q)", HostedScript.NAME, 30);
        s.runs("a.f(q)", HostedScript.NAME, 31);
        // Too few arguments come before too many calls.
        Script t = new Script(8, 200, 2);
        t.runs("class A:\n def f(s,x):\n  return s.g(x)\n def g(s,x):\n  if x:\n   return s.f()\n  return s.f(x)\na=A()",
            HostedScript.DONE, 0);
        t.runs("a.f(1)", HostedScript.TYPE, 6);
        t.runs("a.f(0)", HostedScript.DEPTH, 7);
    }

    private static void plus() {
        Script s = new Script();
        s.runs("class A:\n def a(s,x):\n  if x==none:\n   return 100\n  return x\n def b(s,x):\n  return x\na=A()\nclass B:\n a=4\n"
            + "b=B()\nclass C:\n def a(s):\n  return 1\nc=C()"
            + "\nclass D:\n pass\nd=D()", HostedScript.DONE, 0);
        s.prints("print a+3\nprint a+none\nprint (a+a)==a\nprint a+1+2\nprint a+2*3\nprint 1+(a+1)", 3, 100, 1, 3, 6, 2);
        s.runs("b+1", HostedScript.TYPE, 25);
        s.runs("c+1", HostedScript.TYPE, 26);
        s.runs("d+1", HostedScript.ATTR, 27);
        s.runs("1+a", HostedScript.TYPE, 28);
        s.runs("a-1", HostedScript.TYPE, 29);
        s.runs("a.a=1\na+1", HostedScript.TYPE, 31);
        s.runs("a+q", HostedScript.NAME, 32);
        s.runs("X()+1", HostedScript.ATTR, 33);
    }

    private static void superCalls() {
        Script s = new Script();
        // D's order is D B C A: super in B goes on to C, not to A.
        s.runs("class A:\n def f(s,x):\n  return x\nclass B(A):\n def f(s,x):\n  return super.f(x*10+2)\nclass C(A):\n def f(s,x):\n"
            + "  return super.f(x*10+3)\nclass D(B,C):\n def f(s,x):\n  return super.f(x*10+4)\n def g(s):\n  return super.g()\n"
            + " def k(s,x):\n  return super.f()\n"
            + "b=B()\nd=D()", HostedScript.DONE, 0);
        s.prints("print b.f(1)\nprint d.f(1)", 12, 1423);
        s.runs("d.g()", HostedScript.ATTR, 14);
        s.runs("d.k(1)", HostedScript.TYPE, 16);
        // The receiver is the call's, even where its parameter has changed; an own attribute does not hide a method of super.
        s.prints("class E(A):\n def f(s,x):\n  s=none\n  return super.f(x)+1\ne=E()\ne.f(5)\nprint e.f(5)", 6);
        s.runs("e.f=1\ne.f(1)", HostedScript.TYPE, 31);
        s.prints("class F(A):\n def g(s,x):\n  s.f=0\n  return super.f(x)\ny=F()\nprint y.g(8)", 8);
        // A value behind the home is no method.
        s.runs("class G:\n f=1\nclass H(G):\n def f(s):\n  return super.f()\nh=H()\nh.f()", HostedScript.TYPE, 42);
        // The argument first.
        s.runs("class K:\n def f(s):\n  return super.z(1/0)\nk=K()\nk.f()", HostedScript.ZERO, 47);
        // Calls inside a method leave its receiver as it is.
        Script u = new Script();
        u.prints("class A:\n def f(s,x):\n  return x+s.k\nclass B(A):\n def n(s):\n  pass\n def m(s,x):\n  pass\n def f(s,x):\n  b.n()\n"
            + "  c.m(c)\n"
            + "  return super.f(x)\nb=B()\nb.k=10\nc=B()\nc.k=20\nd=B()\nd.k=30\nprint d.f(1)+d.f(2)+b.f(3)+c.f(4)", 31 + 32 + 13 + 24);
        Script t = new Script(8, 200, 2);
        t.runs("class A:\n def f(s):\n  return 1\nclass B(A):\n def f(s):\n  return super.f()\nclass C(B):\n def f(s):\n"
            + "  return super.f()\nb=B()\nc=C()\nprint b.f()\nc.f()",
            HostedScript.DEPTH, 6);
    }

    private static void making() {
        Script s = new Script();
        s.runs("class A:\n def i(s,x):\n  s.p=x\n  return 99\nclass B:\n def i(s):\n  s.p=5\nclass C:\n i=4\nclass D:\n pass\n"
            + "class E(A):\n pass", HostedScript.DONE, 0);
        s.prints("print A(3).p\nprint B().p\nprint E(4).p\nprint A(A(6)).p.p", 3, 5, 4, 6);
        s.runs("A()", HostedScript.TYPE, 18);
        s.runs("B(1)", HostedScript.TYPE, 19);
        s.runs("C()", HostedScript.TYPE, 20);
        s.runs("C(1)", HostedScript.TYPE, 21);
        s.runs("D(1)", HostedScript.TYPE, 22);
        s.runs("d=D()", HostedScript.DONE, 0);
        s.runs("A(q)", HostedScript.NAME, 24);
        s.runs("Z(1)", HostedScript.NAME, 25);
        s.runs("e=E(1)", HostedScript.DONE, 0);
        Script.due("e", s.variable('e'), Script.object(5));
        // i is a call like others.
        Script t = new Script(8, 200, 2);
        t.runs("class A:\n def i(s,x):\n  if x:\n   s.p=A(x-1)\n  else:\n   s.p=x\na=A(1)\nprint a.p.p\na=A(2)", HostedScript.DEPTH, 4);
        Script u = new Script();
        u.runs("class A:\n def i(s):\n  1/0\na=1\na=A()", HostedScript.ZERO, 3);
        Script.due("a stays", u.variable('a'), Script.number(1));
        // No attributes from an object that was there before.
        Script v = new Script(2, 200, 6);
        v.runs("class A:\n pass\na=A()\na.p=1\na.q=1\na.r=1\na.s=1\na=none\na=A()\nb=A()", HostedScript.DONE, 0);
        for (char c = 'a'; c <= 'z'; c++) {
            Script.due("attribute of a new object", v.attribute('a', c), 0);
            Script.due("attribute of another", v.attribute('b', c), 0);
        }
    }

    private static void hostClass() {
        Script s = new Script();
        s.prints("x=X()\nprint x.h(21)\nprint x.t(9)\nprint x.h(0-4)", 42, 2, -8);
        s.runs("class A(X):\n def h(s,x):\n  return x*x\na=A()", HostedScript.DONE, 0);
        s.prints("print a.t(5)\nprint a.h(5)", 9, 25);
        s.runs("class B(X):\n def h(s,x):\n  return none\nb=B()\nb.t(1)", HostedScript.TYPE, 0);
        s.prints("try:\n b.t(1)\nexcept e:\n print e", 3);
        s.runs("class C(X):\n def h(s,x):\n  return 1/x\nc=C()\nc.t(1)", HostedScript.ZERO, 22);
        s.runs("class D(X):\n h=1\nd=D()\nd.t(1)", HostedScript.TYPE, 0);
        s.runs("x.h()", HostedScript.TYPE, 29);
        s.runs("x.z()", HostedScript.ATTR, 30);
        s.runs("X(1)", HostedScript.TYPE, 31);
        s.runs("x.p=1\nX.p", HostedScript.ATTR, 33);
    }

    private static void hostMethodT() {
        Script s = new Script();
        // Where class 0 is in the list, t is always its own.
        s.runs("class A(X):\n def t(s,x):\n  return 77\n def g(s,x):\n  return super.t(x)\na=A()\nclass B(X):\n t=5\nb=B()\nclass C:\n"
            + " def t(s,x):\n  return 88\n"
            + "class D(C,X):\n pass\nd=D()\nclass E(C):\n t=6\ne=E()", HostedScript.DONE, 0);
        Script.due("A's own t", s.entry(1, 't'), Script.METHOD);
        Script.due("B's own t", s.entry(2, 't'), Script.number(5));
        s.prints("print a.t(9)\nprint a.g(9)\nprint b.t(9)\nprint d.t(9)\nprint C().t(9)\nprint e.t\nprint E.t", 2, 2, 2, 2, 88, 6, 6);
        s.runs("b.t", HostedScript.TYPE, 26);
        s.runs("B.t", HostedScript.TYPE, 27);
        s.prints("A.t=1\nprint a.t(9)", 2);
        // An own attribute comes before every search.
        s.prints("a.t=4\nprint a.t", 4);
        s.runs("a.t(9)", HostedScript.TYPE, 32);
        // Behind the home of a method of D, C's t is passed over for class 0's; without class 0 it is found.
        s.prints("class F(C,X):\n def g(s,x):\n  return super.t(x)\nclass G(C):\n def g(s,x):\n  return super.t(x)\nprint F().g(9)\n"
            + "print G().g(9)", 2, 88);
        // Class 0 in front of the home: the list that is searched does not hold it.
        s.prints("class H(X,G):\n pass\nprint H().g(9)\nprint H().t(9)", 88, 2);
    }

    private static void hostLetter() {
        Script s = new Script();
        s.runs("a=X()\nclass X(X):\n k=3\nb=X()", HostedScript.DONE, 0);
        Script.due("X", s.named('X'), 1);
        s.order(1, 1, 0);
        s.prints("print a.h(1)\nprint b.h(2)\nX.k=4\nprint b.k", 2, 4, 4);
        s.runs("class X:\n pass\nX.h", HostedScript.ATTR, 11);
        Script.due("class 0 keeps h", s.entry(0, 'h'), Script.METHOD);
        s.calls('a', 't', 3, HostedScript.DONE, Script.number(2), 0);
    }

    private static void outOfRange() {
        Script s = new Script();
        s.runs("class A:\n a=1\n z=2", HostedScript.DONE, 0);
        Script.due("entry a", s.host.entry(1, 0), Script.number(1));
        Script.due("entry z", s.host.entry(1, 25), Script.number(2));
        int[] bad = {-1, 26, 27, Integer.MIN_VALUE, Integer.MAX_VALUE, -26};
        for (int b : bad) {
            Script.due("entry of name " + b, s.host.entry(1, b), 0);
            Script.due("entry of class " + b, s.host.entry(b, 0), 0);
            Script.due("order of class " + b, s.host.order(b, 0), -1);
            Script.due("order at " + b, s.host.order(1, b), -1);
            Script.due("named " + b, s.host.named(b), -1);
        }
        Script.due("entry of class 2", s.host.entry(2, 0), 0);
        Script.due("order of class 2", s.host.order(2, 0), -1);
        Script.due("order of class 10", s.host.order(10, 0), -1);
        Script.due("order of class 11", s.host.order(11, 0), -1);
        Script.due("named A", s.host.named(0), 1);
        Script.due("named Z", s.host.named(25), -1);
        s.runs("class Z:\n pass", HostedScript.DONE, 0);
        Script.due("named Z now", s.host.named(25), 2);
    }
}
