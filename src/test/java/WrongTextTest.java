import java.util.ArrayList;
import java.util.Arrays;
import java.util.List;

/** Promise 3 (and 6, 7): which lines of a chunk are wrong, and which is the first. */
public final class WrongTextTest {
    public static void main(String[] args) {
        forms();
        expressions();
        settings();
        headers();
        tokens();
        length();
        parentheses();
        indents();
        elseAndExcept();
        tries();
        classesAndDefs();
        theEnd();
        numbers();
        nothingIsDone();
        Script.end();
    }

    private static void forms() {
        for (String text : new String[] {"pass", "print 1", "raise 1", "1", "a", "none", "a=1", "a.b=1", "A.b=1", "if 1:\n pass",
            "if 0:\n pass\nelse:\n pass", "while 0:\n pass", "try:\n pass\nexcept e:\n pass", "class A:\n pass"}) {
            Script.isRight(text);
        }
        for (String text : new String[] {"pass 1", "pass pass", "print", "raise", "return", "print print", "print a=1", "print 1:",
            "raise a=1", "if", "if:", "if 1", "if 1 1:", "if a=1:", "if 1:pass", "while", "while:", "while 1", "else", "else:",
            "else 1:", "try", "try 1:", "try::", "except", "except:", "except e:", "except 1:", "except E:", "except e",
            ":", "1:", "a:", "pass:", "print", "class", "def", "super", "none=1", "1=1", "(", ")", ",", ".", "=", "==", "+"}) {
            Script.isWrong(text, 1);
        }
        Script.isWrong("try:\n pass\nexcept:\n pass", 3);
        Script.isWrong("try:\n pass\nexcept E:\n pass", 3);
        Script.isWrong("try:\n pass\nexcept e e:\n pass", 3);
        Script.isWrong("try:\n pass\nexcept e\n pass", 3);
        Script.isWrong("if 1:\n pass\nelse 1:\n pass", 3);
        Script.isWrong("if 1:\n pass\nelse\n pass", 3);
    }

    private static void expressions() {
        for (String text : new String[] {"1+2-3*4/5", "1<2", "1==2", "(1<2)<3", "1==(2==3)", "a.b", "a.b.c", "a.b()", "a.b(1)",
            "a.b(1).c", "a.b().c(2).d", "A()", "A(1)", "A.b", "A.b.c", "A.b.c(1)", "A().b", "A(1).b(2)", "1.b", "none.b(none)",
            "(1).b", "(a)", "((a))", "a.b(c<d)", "A(1<2)", "1+(2<3)", "a*b.c(1)/d"}) {
            Script.isRight(text);
        }
        for (String text : new String[] {"1 2", "a b", "1+", "+1", "-1", "1+*2", "1--1", "*1", "1<2<3", "1==2==3", "1<2==3",
            "1==2<3", "1<2+3<4", "()", "(1", "1)", "(1))", "((1)", "a(", "a()", "a(1)", "1(2)", "none()", "a.", "a.1", "a.B", "a.b.",
            "a.b(", "a.b(1", "a.b(1,2)", "a.b(,)", "a.b()()", "a.b(1)(2)", "(a)(1)", "A", "A.", "A.1", "A.B", "A.b()", "A.b(1)",
            "A(1", "A(", "A(1,2)", "A()()", "A A", "(A)", "a.b=", "1,2", "a:b", "if+1", "1+if", "print+1", "pass+1", "a.if", "a.none",
            ".b", "1.", "(.b)", "a..b", "none none", "1<", "<1", "==1", "1==", "(1<)2", "(1+)2", "a.b(1+)"}) {
            Script.isWrong(text, 1);
        }
    }

    private static void settings() {
        for (String text : new String[] {"a=1", "a=b", "a=1<2", "a.b=1", "a.b.c=1", "a.b().c=1", "a.b(1).c=1", "(a).b=1", "(a+b).c=1",
            "(1<2).c=1", "1.a=1", "none.a=1", "A.b=1", "A.b.c=1", "A().b=1", "A(1).b=1", "(A.b).c=1", "(A()).c=a.b", "a.b=A.b"}) {
            Script.isRight(text);
        }
        for (String text : new String[] {"a=", "=1", "a==", "a=1=2", "a=b=2", "a.b=1=2", "a.b=c.d=1", "1=a", "A=1", "A()=1", "(a)=1",
            "(a.b)=1", "a.b()=1", "a.b(1)=1", "a+b=1", "a+b.c=1", "b*c.d=1", "a<b.c=1", "a==b.c=1", "a b=1", "a b.c=1", ".b=1", "a.=1",
            "a.1=1", "a.B=1", "A.B=1", "(a.b=1", "(a.b).=1", "(a=1)", "a.b(c=1)", "A.b(1).c=1", "A.b().c=1", "a.b+=1", "if a=1:",
            "A b=1", "a.b.=1", "a..b=1", "(a).b).c=1", "(a.b.c=1", "a,b=1", "print.a=1", "a.b=", "A.b="}) {
            Script.isWrong(text, 1);
        }
        Script.isWrong("class A:\n def f(s):\n  super.a=1", 3);
        Script.isWrong("class A:\n def f(s):\n  super=1", 3);
        Script.isRight("class A:\n def f(s):\n  super.a().b=1");
        Script.isRight("class A:\n def f(s):\n  super.a(1).b.c=1");
        for (String text : new String[] {"super", "super.a", "super.a+1", "super(1)", "super.A()", "super.a(", "super.a(1",
            "super.a()()", "a.super()", "super.a(1,2)", "super.1()"}) {
            Script.isWrong("class A:\n def f(s):\n  " + text, 3);
        }
        Script.isRight("class A:\n def f(s):\n  super.a()+super.b(1).c(super.d())");
    }

    private static void headers() {
        for (String text : new String[] {"class A:", "class A(X):", "class A(X,A):", "class A(A,A):"}) {
            Script.isRight(text + "\n pass");
        }
        for (String text : new String[] {"class a:", "class :", "class A", "class A B:", "class A():", "class A(:", "class A(x):",
            "class A(1):", "class A(X:", "class A(X,):", "class A(,X):", "class A(X X):", "class A(X,x):", "class A(X,Y", "class A(X,Y):1",
            "class A(X,Y,Z):", "class A(X):1", "class A::", "class 1:", "class A(X)", "class A(X,Y)", "class A X:", "class A)X):",
            "class A(X(:", "class A(X.Y):", "class A(X,Y(:", "class A(X),Y):"}) {
            Script.isWrong(text + "\n pass", 1);
        }
        for (String text : new String[] {"def f(a):", "def f(a,b):", "def a(a):", "def a(b,a):"}) {
            Script.isRight("class A:\n " + text + "\n  pass");
        }
        for (String text : new String[] {"def f:", "def f():", "def f(a)", "def f(a,b)", "def f(a,a):", "def F(a):", "def f(A):",
            "def f(1):", "def f(a,):", "def f(,a):", "def f(a b):", "def f(a,B):", "def f(a,b,c):", "def (a):", "def f a:", "def f(a:",
            "def f(a):1", "def f)a):", "def f(a(:", "def f(a.b):", "def 1(a):", "def f(a,b):1"}) {
            Script.isWrong("class A:\n " + text + "\n  pass", 2);
        }
    }

    private static void tokens() {
        List<Integer> none = new ArrayList<>(Arrays.asList(Integer.MIN_VALUE, -1, -40, -1000, 14, 20, 33, 39, 49, 99, 126, 129, 156, 999));
        for (int token : none) {
            Script s = new Script();
            s.putTokens(Arrays.asList(100, 26, 1001, 40, token));
            Script.due("run with token " + token, s.host.run(), HostedScript.WRONG);
            Script.due("place with token " + token, s.host.place(), 2);
            s.putTokens(Arrays.asList(100, 26, 1001, 29, token));
            Script.due("run with operand " + token, s.host.run(), HostedScript.WRONG);
            s.putTokens(Arrays.asList(100, token, 101));
            Script.due("run with operator " + token, s.host.run(), HostedScript.WRONG);
        }
        int[][] good = {{100, 125, 25}, {1000, 0, 0}, {Integer.MAX_VALUE, 0, 0}};
        for (int[] g : good) {
            Script s = new Script();
            s.putTokens(Arrays.asList(g[1] == 0 ? 100 : g[1], 26, g[0] < 1000 ? 1007 : g[0]));
            Script.due("run with " + g[0], s.host.run(), HostedScript.DONE);
            Script.due("value with " + g[0], s.host.variable(g[2]), Script.number(g[0] < 1000 ? 7 : g[0] - 1000));
        }
    }

    private static void length() {
        String forty = "a=1" + "+1".repeat(18);
        Script s = new Script();
        Script.due("39 tokens", s.put(forty), 39);
        Script.due("run of 39 tokens", s.host.run(), HostedScript.DONE);
        Script.due("sum of 19 ones", s.variable('a'), Script.number(19));
        s.runs("\nprint 1" + "+1".repeat(19), HostedScript.DONE, 0);
        Script.due("sum of 20 ones in 40 tokens", s.host.printed(0), 20);
        Script.isWrong("print 1+1\nprint " + "(1)" + "+1".repeat(18) + "+A.b", 2);
        Script.isWrong("pass\na=1" + "+1".repeat(19), 2);
        Script.isWrong("pass\nprint 1" + "+1".repeat(20), 2);
        Script.isWrong("a=1" + "+1".repeat(60), 1);
    }

    private static void parentheses() {
        Script.isRight("((((1))))");
        Script.isRight("((((1))))+((((1))))");
        Script.isRight("a.b(a.b(a.b(a.b(1))))");
        Script.isRight("A(A(A(A())))");
        Script.isRight("(((A())))");
        Script.isRight("(((a.b())))");
        Script.isRight("class A:\n def f(s):\n  (((super.f())))");
        Script.isWrong("(((((1)))))", 1);
        Script.isWrong("a.b(a.b(a.b(a.b(a.b(1)))))", 1);
        Script.isWrong("a.b(a.b(a.b(a.b(a.b()))))", 1);
        Script.isWrong("A(A(A(A(A()))))", 1);
        Script.isWrong("((((A()))))", 1);
        Script.isWrong("((((a.b()))))", 1);
        Script.isWrong("((((a.b(1)))))", 1);
        Script.isWrong("((((a)))).b=(((((1)))))", 1);
        Script.isWrong("class A:\n def f(s):\n  ((((super.f()))))", 3);
        Script.isWrong("class A:\n def f(s):\n  super.f(super.f(super.f(super.f(super.f()))))", 3);
    }

    private static void indents() {
        Script.isRight("\n\npass\n    \npass");
        Script.isWrong("\n pass", 2);
        Script.isWrong("\n        \n pass", 3);
        Script.isWrong("pass\n pass", 2);
        Script.isWrong("if 1:\npass", 2);
        Script.isWrong("if 1:\n\n\npass", 4);
        Script.isWrong("if 1:\n if 1:\n pass", 3);
        Script.isWrong("if 1:\n if 1:\npass", 3);
        Script.isWrong("if 1:\n  pass\n pass", 3);
        Script.isWrong("if 1:\n  pass\n   pass", 3);
        Script.isWrong("if 1:\n  pass\n\n        \n pass", 5);
        Script.isWrong("if 1:\n if 1:\n    pass\n  pass", 4);
        Script.isWrong("if 1:\n  if 1:\n    pass\n   pass", 4);
        Script.isRight("if 1:\n        pass");
        Script.isRight("if 1:\n  pass\nif 1:\n    pass\n    pass\npass");
        Script.isRight("if 1:\n  if 1:\n     pass\n  pass\npass");
        Script.isRight("if 1:\n  pass\n\n        \n  pass");
        Script.isRight("if 1:\n if 1:\n  if 1:\n   if 1:\n    if 1:\n     if 1:\n      if 1:\n       if 1:\n        pass\npass");
    }

    private static void elseAndExcept() {
        Script.isRight("if 1:\n if 1:\n  pass\n else:\n  pass\nelse:\n pass");
        Script.isRight("if 1:\n if 1:\n  pass\nelse:\n pass");
        Script.isRight("if 1:\n  pass\n\nelse:\n    pass");
        Script.isWrong("pass\nelse:\n pass", 2);
        Script.isWrong("if 1:\nelse:\n pass", 2);
        Script.isWrong("if 1:\n else:\n  pass", 2);
        Script.isWrong("if 1:\n pass\n else:\n  pass", 3);
        Script.isWrong("if 1:\n pass\npass\nelse:\n pass", 4);
        Script.isWrong("if 1:\n pass\nelse:\n pass\nelse:\n pass", 5);
        Script.isWrong("while 1:\n pass\nelse:\n pass", 3);
        Script.isWrong("class A:\n pass\nelse:\n pass", 3);
        Script.isWrong("try:\n pass\nelse:\n pass", 3);
        Script.isWrong("try:\n pass\nexcept e:\n pass\nelse:\n pass", 5);
        Script.isWrong("if 1:\n while 1:\n  pass\n else:\n  pass", 4);
        Script.isWrong("if 1:\n    pass\n  else:\n    pass", 3);
        Script.isWrong("pass\nexcept e:\n pass", 2);
        Script.isWrong("try:\nexcept e:\n pass", 2);
        Script.isWrong("try:\n except e:\n  pass", 2);
        Script.isWrong("if 1:\n pass\nexcept e:\n pass", 3);
        Script.isWrong("try:\n pass\nexcept e:\n pass\nexcept e:\n pass", 5);
        Script.isWrong("try:\n pass\n except e:\n  pass", 3);
        Script.isWrong("try:\n if 1:\n  pass\n except e:\n  pass", 4);
    }

    private static void tries() {
        Script.isRight("try:\n pass\n\n    \nexcept e:\n pass");
        Script.isRight("try:\n try:\n  pass\n except e:\n  pass\nexcept e:\n pass");
        Script.isRight("try:\n if 1:\n  pass\n pass\nexcept e:\n pass");
        Script.isWrong("try:\n pass\npass", 3);
        Script.isWrong("try:\n pass\nif 1:\n pass", 3);
        Script.isWrong("try:\n pass\ntry:\n pass\nexcept e:\n pass", 3);
        Script.isWrong("if 1:\n try:\n  pass\n pass", 4);
        Script.isWrong("if 1:\n try:\n  pass\npass", 4);
        Script.isWrong("if 1:\n try:\n  pass\nelse:\n pass", 4);
        Script.isWrong("if 1:\n try:\n  pass\nexcept e:\n pass", 4);
        Script.isWrong("try:\n try:\n  pass\nexcept e:\n pass", 4);
        Script.isWrong("class A:\n def f(s):\n  try:\n   pass\n def g(s):\n  pass", 5);
    }

    private static void classesAndDefs() {
        Script.isRight("class A:\n pass\n a=1\n def f(s):\n  pass\n def g(s):\n  return 1\nclass B:\n pass");
        Script.isRight("if 1:\n class A:\n  pass\nelse:\n class A:\n  pass");
        Script.isRight("while 0:\n class A:\n  pass");
        Script.isRight("try:\n class A:\n  pass\nexcept e:\n class A:\n  pass");
        for (String text : new String[] {"print 1", "1", "a.b=1", "A.b=1", "raise 1", "return 1", "a=super.b()", "if 1:\n  pass",
            "while 1:\n  pass", "try:\n  pass\n except e:\n  pass", "class B:\n  pass", "else:\n  pass", "except e:\n  pass"}) {
            Script.isWrong("class A:\n " + text, 2);
            Script.isWrong("class A:\n pass\n a=1\n\n " + text, 5);
        }
        Script.isWrong("class A:\n def f(s):\n  class B:\n   pass", 3);
        Script.isWrong("class A:\n def f(s):\n  if 1:\n   class B:\n    pass", 4);
        Script.isWrong("if 1:\n class A:\n  def f(s):\n   class B:\n    pass", 4);
        Script.isWrong("while 0:\n if 1:\n  class A:\n   def f(s):\n    if 1:\n     class B:\n      pass", 6);
        Script.isWrong("class A:\n def f(s):\n  def g(s):\n   pass", 3);
        Script.isWrong("class A:\n def f(s):\n  if 1:\n   def g(s):\n    pass", 4);
        Script.isWrong("def f(s):\n pass", 1);
        Script.isWrong("if 1:\n def f(s):\n  pass", 2);
        Script.isWrong("class A:\n pass\ndef f(s):\n pass", 3);
        Script.isWrong("return 1", 1);
        Script.isWrong("if 1:\n return 1", 2);
        Script.isWrong("class A:\n def f(s):\n  return 1\n return 1", 4);
        Script.isWrong("class A:\n def f(s):\n  return 1\nreturn 1", 4);
        Script.isWrong("class A:\n def f(s):\n  return", 3);
        Script.isWrong("a=super.b()", 1);
        Script.isWrong("a=1+2*(super.b(1))", 1);
        Script.isWrong("if super.b():\n pass", 1);
        Script.isWrong("while 1:\n super.b().c=1", 2);
        Script.isWrong("class A:\n def f(s):\n  pass\nsuper.f()", 4);
        Script.isRight("class A:\n def f(s):\n  if 1:\n   while 1:\n    try:\n     return super.f()\n    except e:\n     return s");
    }

    private static void theEnd() {
        Script.isWrong("if 1:", 2);
        Script.isWrong("pass\nwhile 1:", 3);
        Script.isWrong("class A:", 2);
        Script.isWrong("class A:\n def f(s):", 3);
        Script.isWrong("try:", 2);
        Script.isWrong("try:\n pass\nexcept e:", 4);
        Script.isWrong("if 1:\n pass\nelse:", 4);
        Script.isWrong("try:\n pass", 3);
        Script.isWrong("try:\n pass\n\n   \n", 6);
        Script.isWrong("if 1:\n\n", 4);
        Script.isWrong("if 1:\n try:\n  pass", 4);
        Script.isWrong("try:\n try:\n  pass\n except e:\n  pass", 6);
        Script.isRight("");
        Script.isRight("\n\n");
        Script.isRight("   \n    \n".stripLeading());
    }

    private static void numbers() {
        Script s = new Script();
        s.runs("a=1\n\nb=2", HostedScript.DONE, 0);
        s.runs("pass\n\n1 1", HostedScript.WRONG, 6);
        s.runs("if 1:", HostedScript.WRONG, 5);
        s.runs("if 1:\n pass\n 1 1\n2 2", HostedScript.WRONG, 6);
        Script.due("lines", s.host.lines(), 3);
        s.runs("", HostedScript.DONE, 0);
        Script.due("lines and an empty chunk", s.host.lines(), 4);
        s.runs("q", HostedScript.NAME, 5);
        Script.due("lines after an error", s.host.lines(), 5);
        s.runs("1 1", HostedScript.WRONG, 6);
        Script.due("result after WRONG", s.host.result(), 0);
    }

    private static void nothingIsDone() {
        Script s = new Script();
        s.runs("a=1\nprint 5\nclass A:\n pass\nb=", HostedScript.WRONG, 5);
        Script.due("a is not set", s.variable('a'), 0);
        Script.due("nothing is printed", s.host.prints(), 0);
        Script.due("A is not made", s.named('A'), -1);
        // A chunk after a wrong one is read as if that had never been.
        s.prints("x=3\nprint x*2", 6);
    }
}
