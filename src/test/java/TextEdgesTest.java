import java.util.ArrayList;
import java.util.Arrays;
import java.util.List;

/** The edges that the document names for tokens, lines and blocks: each sentence has a test of its own. */
public final class TextEdgesTest {
    private static final String IN_DEF = "class A:\n def f(s,x):\n  ";

    public static void main(String[] args) {
        wordsAndSigns();
        newLines();
        names();
        classLetters();
        numbers();
        zeroIsSkipped();
        anyOtherToken();
        firstLine();
        countOfLines();
        blankLines();
        fortyTokens();
        forms();
        twoDifferentNames();
        operandsAndPostfixes();
        oneComparison();
        noCallOfAnEntry();
        beforeTheSign();
        entryForm();
        fourParentheses();
        whatABlockEncloses();
        firstIsNotIndented();
        deeperAfterAnOpener();
        notDeeperAfterAnother();
        backToALevel();
        elseLines();
        exceptLines();
        triesNeedAnExcept();
        noClassInAClass();
        directlyInAClass();
        defsStandThereAlone();
        returnAndSuper();
        endAfterAnOpener();
        endAfterATry();
        numberOfTheWrongLine();
        Script.end();
    }

    private static void allWrong(int line, String... texts) {
        for (String text : texts) {
            Script.isWrong(text, line);
        }
    }

    private static void allRight(String... texts) {
        for (String text : texts) {
            Script.isRight(text);
        }
    }

    /** The tokens must be wrong at that line. */
    private static void wrongTokens(int line, Integer... tokens) {
        Script s = new Script();
        Script.due("run of " + Arrays.asList(tokens), s.run(tokens), HostedScript.WRONG);
        Script.due("place after " + Arrays.asList(tokens), s.host.place(), line);
        Script.due("lines after " + Arrays.asList(tokens), s.host.lines(), 0);
    }

    // ---- Tokens ----

    private static void wordsAndSigns() {
        Script.sentence("1 class, 2 def, 3 return, .. 13 super, 21 ( 22 ) 23 comma .. 32 /");
        Script s = new Script();
        s.putTokens(Arrays.asList(1, 130, 21, 153, 22, 25));
        s.putTokens(Arrays.asList(41, 2, 105, 21, 118, 23, 123, 22, 25));
        s.putTokens(Arrays.asList(42, 4, 123, 27, 1001, 25));
        s.putTokens(Arrays.asList(43, 3, 13, 24, 107, 21, 123, 22, 30, 1005));
        s.putTokens(Arrays.asList(42, 5, 25));
        s.putTokens(Arrays.asList(43, 10));
        s.putTokens(Arrays.asList(42, 6, 123, 28, 1003, 25));
        s.putTokens(Arrays.asList(43, 123, 26, 123, 29, 1001, 31, 1009, 32, 1003));
        s.putTokens(Arrays.asList(42, 7, 25));
        s.putTokens(Arrays.asList(43, 9, 123));
        s.putTokens(Arrays.asList(42, 8, 104, 25));
        s.putTokens(Arrays.asList(43, 11, 104));
        s.putTokens(Arrays.asList(42, 3, 12));
        s.putTokens(Arrays.asList(40, 100, 26, 130, 21, 22));
        s.putTokens(Arrays.asList(40, 101, 26, 100, 24, 105, 21, 1001, 22));
        s.putTokens(Arrays.asList(40, 102, 26, 100, 24, 105, 21, 1002, 22));
        Script.due("run of all words and signs", s.host.run(), HostedScript.DONE);
        Script.due("super.h(1)-5", s.variable('b'), Script.number(-3));
        Script.due("return none", s.variable('c'), Script.NONE);
        Script.due("2+1*9/3 was raised and printed", s.host.printed(0), 5);
        Script.due("and nothing else", s.host.prints(), 1);
    }

    private static void newLines() {
        Script.sentence("40 .. 48 begin a new line indented by 0 .. 8");
        for (int indent = 1; indent <= 8; indent++) {
            Script s = new Script();
            Script.due("block by " + indent, s.run(4, 1001, 25, 40 + indent, 11, 1007, 40, 11, 1008), HostedScript.DONE);
            Script.due("lines by " + indent, s.host.lines(), 3);
            Script.due("printed by " + indent, s.host.printed(1), 7);
            for (int next = 0; next <= 8; next++) {
                Script t = new Script();
                int due = next == 0 || next == indent ? HostedScript.DONE : HostedScript.WRONG;
                Script.due("pass by " + indent + " and " + next, t.run(4, 1001, 25, 40 + indent, 10, 40 + next, 10), due);
            }
        }
        wrongTokens(1, 10, 39, 10);
        wrongTokens(1, 10, 49, 10);
        wrongTokens(1, 4, 1001, 25, 49, 10);
        Script.isRight("if 1:\n if 1:\n  if 1:\n   if 1:\n    if 1:\n     if 1:\n      if 1:\n       if 1:\n        pass");
    }

    private static void names() {
        Script.sentence("100 .. 125 the NAMEs a .. z");
        Script s = new Script();
        for (int name = 0; name < 26; name++) {
            Script.due("run of a name", s.run(100 + name, 26, 1100 + name), HostedScript.DONE);
        }
        for (int name = 0; name < 26; name++) {
            Script.due("variable " + name, s.host.variable(name), Script.number(100 + name));
        }
        for (int token : new int[] {99, 126}) {
            wrongTokens(1, token);
            wrongTokens(1, token, 26, 1001);
            wrongTokens(1, 153, 24, token);
            wrongTokens(3, 7, 25, 41, 10, 40, 8, token, 25, 41, 10);
            wrongTokens(2, 1, 130, 25, 41, 2, token, 21, 118, 22, 25, 42, 10);
            wrongTokens(2, 1, 130, 25, 41, 2, 105, 21, token, 22, 25, 42, 10);
        }
    }

    private static void classLetters() {
        Script.sentence("130 .. 155 the CLASS letters A .. Z");
        for (int letter = 0; letter < 26; letter++) {
            Script s = new Script();
            Script.due("run of a class", s.run(1, 130 + letter, 25, 41, 10), HostedScript.DONE);
            Script.due("named(" + letter + ")", s.host.named(letter), 1);
            Script.due("the others", s.host.named((letter + 1) % 26), (letter + 1) % 26 == 23 ? 0 : -1);
        }
        for (int token : new int[] {129, 156}) {
            wrongTokens(1, token, 21, 22);
            wrongTokens(1, token, 24, 107);
            wrongTokens(1, token, 24, 107, 26, 1001);
            wrongTokens(1, 1, token, 25, 41, 10);
            wrongTokens(1, 1, 130, 21, token, 22, 25, 41, 10);
            wrongTokens(1, 1, 130, 21, 153, 23, token, 22, 25, 41, 10);
        }
    }

    private static void numbers() {
        Script.sentence("1000 and more: the NUMBER that is the token minus 1000");
        Script s = new Script();
        for (int token : new int[] {1000, 1001, 1999, 2000, 1000000, Integer.MAX_VALUE - 1, Integer.MAX_VALUE}) {
            Script.due("print of " + token, s.run(11, token), HostedScript.DONE);
            Script.due("printed for " + token, s.host.printed(0), token - 1000);
        }
        wrongTokens(1, 11, 999);
    }

    private static void zeroIsSkipped() {
        Script.sentence("0 is skipped.");
        Script s = new Script();
        Script.due("three of four", s.host.put(0, 11, 0, 1003), 2);
        Script.due("a 0 between", s.host.put(29, 0, 1004, 0), 4);
        Script.due("run", s.host.run(), HostedScript.DONE);
        Script.due("3 + 4", s.host.printed(0), 7);
        Script.due("zeros alone", s.host.put(0, 0, 0, 0), 4);
        Script.due("run of zeros", s.host.run(), HostedScript.DONE);
        Script.due("a chunk of zeros has its first line alone", s.host.lines(), 2);
        // A line of 40 tokens with as many zeros between.
        s.host.put(11, 0, 1001, 0);
        for (int at = 0; at < 19; at++) {
            s.host.put(0, 29, 0, 1001);
        }
        Script.due("run of 40 tokens and zeros", s.host.run(), HostedScript.DONE);
        Script.due("sum", s.host.printed(0), 20);
    }

    private static void anyOtherToken() {
        Script.sentence("Any other token makes its line wrong.");
        List<Integer> others = new ArrayList<>(Arrays.asList(Integer.MIN_VALUE, -1000, -100, -41, -1, 14, 15, 19, 20, 33, 34, 39,
            49, 50, 99, 126, 127, 129, 156, 157, 998, 999));
        for (int other : others) {
            wrongTokens(1, other);
            wrongTokens(1, other, 40, 10);
            wrongTokens(2, 10, 40, other, 40, 10, 10);
            wrongTokens(2, 10, 40, 10, other);
            wrongTokens(2, 10, 40, other, 10);
            wrongTokens(1, 11, 1001, 29, other);
            wrongTokens(1, 11, 1001, other, 1001);
            wrongTokens(1, 11, 21, 1001, other);
            wrongTokens(1, 4, 1001, other, 40, 10);
            wrongTokens(1, 4, 1001, other, 25, 41, 10);
            wrongTokens(2, 4, 1001, 25, 41, other);
            wrongTokens(3, 4, 1001, 25, 41, 10, 40, 5, other, 41, 10);
        }
    }

    private static void firstLine() {
        Script.sentence("A chunk's first line is indented by 0 and needs no token of its own");
        Script s = new Script();
        Script.due("without a token of its own", s.run(10), HostedScript.DONE);
        Script.due("one line", s.host.lines(), 1);
        Script.due("with the token 40 the first line is blank", s.run(40, 10), HostedScript.DONE);
        Script.due("two lines more", s.host.lines(), 3);
        Script.due("back to the first line", s.run(4, 1001, 25, 41, 10, 40, 10), HostedScript.DONE);
        // The last line of the chunk before has no say in it.
        Script.due("after an indented line", s.run(4, 1001, 25, 43, 10), HostedScript.DONE);
        Script.due("again by 0", s.run(10, 41, 10), HostedScript.WRONG);
        Script.due("the second line is wrong", s.host.place(), 10);
    }

    private static void countOfLines() {
        Script.sentence("so a chunk with n tokens 40 .. 48 has n + 1 lines");
        Script s = new Script();
        Script.due("run of no token", s.host.run(), HostedScript.DONE);
        Script.due("0 tokens", s.host.lines(), 1);
        Script.due("run of 40", s.run(40), HostedScript.DONE);
        Script.due("1 token", s.host.lines(), 3);
        Script.due("run of 40 .. 48", s.run(40, 41, 42, 43, 44, 45, 46, 47, 48), HostedScript.DONE);
        Script.due("9 tokens", s.host.lines(), 13);
        Script.due("run with a last line that is blank", s.run(10, 40), HostedScript.DONE);
        Script.due("2 lines", s.host.lines(), 15);
        s.runs("q", HostedScript.NAME, 16);
    }

    private static void blankLines() {
        Script.sentence("A line without tokens is blank: it is counted as a line and else ignored.");
        Script s = new Script(8, 20, 6);
        s.prints("if 1:\n\n print 1\n        \n print 2\n\nelse:\n\n print 3\n", 1, 2);
        Script.due("ten lines", s.host.lines(), 10);
        s.prints("try:\n\n raise 4\n\n    \nexcept e:\n  \n print e\n\nprint 5", 4, 5);
        s.prints("n=0\nwhile n<2:\n n=n+1\n\n\n print n", 1, 2);
        s.prints("class A:\n\n def f(s):\n\n  y=6\n\n  return y\n\n a=1\n\na=A()\n\nprint a.f()+a.a", 7);
        s.prints("\n\n        \nprint 8\n        \nprint 9", 8, 9);
        Script.due("all lines", s.host.lines(), 45);
        s.runs("\n   \n\nq", HostedScript.NAME, 49);
        // They take no step.
        s.runs("pass\n\n   \n".repeat(20), HostedScript.DONE, 0);
        s.runs("1 1\n\n", HostedScript.WRONG, 49 + 62);
        s.runs("\n\n1 1", HostedScript.WRONG, 49 + 64);
    }

    /** A line of so many tokens: its beginning, a sum and its end. An object made with an argument gives a sum of even length. */
    private static String longLine(String head, String tail, int size) {
        int left = size - Script.tokens(head + tail).size();
        return head + (left % 2 == 1 ? "1" + "+1".repeat((left - 1) / 2) : "X(1)" + "+1".repeat((left - 4) / 2)) + tail;
    }

    private static void fortyTokens() {
        Script.sentence("A line of more than 40 tokens is wrong.");
        Script s = new Script();
        Script.due("a chunk of 40 tokens", s.put("print 1" + "+1".repeat(19)), 40);
        Script.due("run of 40 tokens", s.host.run(), HostedScript.DONE);
        Script.due("twenty", s.host.printed(0), 20);
        // The token that begins the line is none of them: a line with that token alone is one without tokens.
        Script.due("a line of 40 tokens behind its beginning", s.put("\nprint 2" + "+1".repeat(19)), 40 + 41);
        Script.due("run of the second", s.host.run(), HostedScript.DONE);
        Script.due("twenty-one", s.host.printed(0), 21);
        for (String head : new String[] {"", "print ", "raise ", "a=", "a.b=", "A.b=", "a.b(1).b="}) {
            Script.isRight(longLine(head, "", 39));
            Script.isRight(longLine(head, "", 40));
            Script.isWrong(longLine(head, "", 41), 1);
            Script.isWrong(longLine(head, "", 42), 1);
            Script.isWrong(longLine(head, "", 80), 1);
            Script.isWrong(longLine(head, "", 399), 1);
            Script.isRight("if 1:\n " + longLine(head, "", 40) + "\npass");
            Script.isWrong("if 1:\n " + longLine(head, "", 41) + "\n1 1", 2);
        }
        for (String head : new String[] {"if ", "while "}) {
            Script.isRight(longLine(head, ":", 40) + "\n pass");
            Script.isWrong(longLine(head, ":", 41) + "\n pass", 1);
        }
        for (String head : new String[] {"(", "X(", "a.b("}) {
            Script.isRight("pass\n" + longLine(head, ")", 40));
            Script.isWrong("pass\n" + longLine(head, ")", 41), 2);
        }
        Script.isRight("class A:\n " + longLine("a=", "", 40));
        Script.isWrong("class A:\n " + longLine("a=", "", 41), 2);
        Script.isRight(IN_DEF + longLine("return ", "", 40));
        Script.isWrong(IN_DEF + longLine("return ", "", 41), 3);
        Script.isRight(IN_DEF + longLine("super.f(", ")", 40));
        Script.isWrong(IN_DEF + longLine("super.f(", ")", 41), 3);
    }

    // ---- Lines ----

    private static void forms() {
        Script.sentence("A LINE is one of");
        allRight("pass", "print 1", "raise 1", "1", "a=1", "a.b=1", "A.b=1", "if 1:\n pass\nelse:\n pass", "while 0:\n pass",
            "try:\n pass\nexcept e:\n pass", "class A:\n pass", "class A(X):\n pass", "class A(X,B):\n pass",
            IN_DEF + "return 1", "class A:\n def f(s):\n  pass");
        // A token too few, or one too many.
        allWrong(1, "pass 1", "print", "print 1 1", "raise", "raise 1 1", "1 1", "a=", "=1", "a=1 1", "a.b=", ".b=1", "a.=1",
            "A.=1", "A.b=", "A b=1", "if :", "if 1", "if 1 1:", "if 1::", "while :", "while 1", "while 1 1:", "try", "try 1:", "class A",
            "class :", "class A(X)", "class A(X:", "class A X):", "class A():", "class A(X,):", "class A(,X):", "class A(X Y):",
            "class A(X,Y,Z):", "class A(X,Y)", "class A:1", "class", "def", "return", "if", "while", "else", "except");
        // Another token in the place of one.
        allWrong(1, "class a:", "class A)X):", "class A(X(:", "class A(x):", "class A(X.Y):", "class A(X,y):", "class A(X,Y(:",
            "class A)X,Y):", "class A(X,Y)=",
            "if 1=", "try)", "a==1=2", "a,b=1", "X,b=1", "a:1", "print:1");
        allWrong(2, "class A:\n def F(s):\n  pass", "class A:\n def f)s):\n  pass", "class A:\n def f(s(:\n  pass",
            "class A:\n def f(S):\n  pass",
            "class A:\n def f(s.x):\n  pass", "class A:\n def f(s,X):\n  pass", "class A:\n def f(s,x(:\n  pass",
                "class A:\n def f)s,x):\n  pass");
        allWrong(3, "try:\n pass\nexcept E:\n pass", "try:\n pass\nexcept 1:\n pass", "if 1:\n pass\nelse=\n pass");
        allWrong(2, "class A:\n def (s):\n  pass", "class A:\n def f s):\n  pass", "class A:\n def f(s:\n  pass",
            "class A:\n def f(s)\n  pass", "class A:\n def f():\n  pass", "class A:\n def f:\n  pass",
            "class A:\n def f(s,):\n  pass", "class A:\n def f(s x):\n  pass", "class A:\n def f(s,x,y):\n  pass",
            "class A:\n def f(s):1\n  pass");
        allWrong(3, IN_DEF + "return", IN_DEF + "return 1 1", "if 1:\n pass\nelse\n pass", "if 1:\n pass\nelse 1:\n pass",
            "try:\n pass\nexcept:\n pass", "try:\n pass\nexcept e\n pass", "try:\n pass\nexcept e 1:\n pass");
    }

    private static void twoDifferentNames() {
        Script.sentence("def NAME ( NAME , NAME ) :     (two different names)");
        allRight(IN_DEF + "pass", "class A:\n def s(s,x):\n  pass", "class A:\n def x(s,x):\n  pass");
        allWrong(2, "class A:\n def f(s,s):\n  pass", "class A:\n def s(s,s):\n  pass", "class A:\n def f(a,a):\n  pass",
            "class A:\n def f(z,z):\n  pass");
        // The bases of a class line may be the same: that is an error of the run.
        new Script().runs("class A(X,X):\n pass", HostedScript.TYPE, 1);
    }

    private static void operandsAndPostfixes() {
        Script.sentence("Q := NUMBER | NAME | none | ( E ) | CLASS ( ) | CLASS ( E ) | CLASS . NAME | super . NAME ( ) | super . NAME ( "
            + "E )");
        allRight("1", "a", "none", "(1)", "X()", "X(1)", "X.a", "a.b", "a.b()", "a.b(1)", "1.b", "none.b", "(1).b()", "X().b",
            "X.a.b.c(1).d()", "1+2-3*4/5", IN_DEF + "super.f()",
            IN_DEF + "super.f(1).a+super.f(super.f())");
        allWrong(1, "(1", "1)", "((1)", "(1))", "()", "(", ")", "X", "X(", "X)", "X(1", "X(,)", "X(1,2)", "X()()", "X(1)(1)", "X.",
            "X.1", "X.X", "X.none", "a.", "a.1", "a.X", "a.b(", "a.b(1",
            "a.b)", "a.b(1,2)", "a.b()()", "a()", "a(1)", "1(1)", "none()", "(a)(1)", "a..b", ".b", "1+", "+1", "-1", "1+*2", "1--1",
                "*1", "1/", "a b", "1 a", "none none", "X() X()", "1,2",
            "(1+)2", "(1 2)", "pass+1", "1+pass", "print+1", "if+1");
        allWrong(3, IN_DEF + "super", IN_DEF + "super.f", IN_DEF + "super()", IN_DEF + "super(1)", IN_DEF + "super.f(", IN_DEF
            + "super.f(1", IN_DEF + "super.f(1,2)", IN_DEF + "super.F()",
            IN_DEF + "super.f()()", IN_DEF + "a.super()", IN_DEF + "super.f+1", IN_DEF + "super=1", IN_DEF + "super.f=1");
    }

    private static void oneComparison() {
        Script.sentence("E := S [ (== | <) S ]");
        allRight("1==2", "1<2", "1+2*3<4-5/6", "(1<2)<3", "1<(2<3)", "(1==2)==(3<4)", "X().h(1<2)<3");
        allWrong(1, "1<2<3", "1==2==3", "1<2==3", "1==2<3", "1<2+3<4", "1==2*3==4", "(1<2<3)", "X().h(1<2<3)", "X(1==2==3)", "1<", "<1",
            "1==",
            "==1", "1<==2");
    }

    private static void noCallOfAnEntry() {
        Script.sentence("CLASS . NAME directly followed by ( is wrong.");
        allRight("X.h", "X.h.h()", "X.h.h(1)", "(X.h).h()", "X().h(1)");
        allWrong(1, "X.h()", "X.h(1)", "1+X.h()", "(X.h(1))", "X(X.h())", "X.h().a", "X.h(1).a=1", "print X.h(1)", "a=X.h()", "X.a=X.h()");
    }

    private static void beforeTheSign() {
        Script.sentence("In P . NAME = E the last tokens before = are . NAME");
        allRight("a.b=1", "a.b.c=1", "a.b().c=1", "a.b(1).c=1", "(a).b=1", "(a+b).c=1", "X().b=1", "1.b=1", "none.b=1");
        allWrong(1, "a.b()=1", "a.b(1)=1", "(a.b)=1", "(a)=1", "X()=1", "X=1", "1=1", "none=1", "a.B=1", "a.1=1", "a+b=1", "a b=1",
            "a+b.c=1",
            "a<b.c=1", "a.b=c=1", "a.b=c.d=1", "a=b=1");
    }

    private static void entryForm() {
        Script.sentence("where the tokens before = are CLASS . NAME alone, the form CLASS . NAME = E holds");
        Script s = new Script();
        s.runs("class A:\n a=X()\nA.b=1\nA.a.b=2\n(A.a).c=3\nd=A.a", HostedScript.DONE, 0);
        Script.due("A.b", s.entry(1, 'b'), Script.number(1));
        Script.due("A.c", s.entry(1, 'c'), 0);
        Script.due("A.a.b", s.attribute('d', 'b'), Script.number(2));
        Script.due("(A.a).c", s.attribute('d', 'c'), Script.number(3));
        // As P . NAME = E it would be TYPE, and the entry would be looked for first.
        s.runs("A.q=4", HostedScript.DONE, 0);
        s.runs("A.q.a=4", HostedScript.TYPE, 8);
        s.runs("A.r.a=4", HostedScript.ATTR, 9);
    }

    private static void fourParentheses() {
        Script.sentence("More than 4 parentheses open at one place of a line: the line is wrong.");
        allRight("((((1))))", "((((1))))+((((1))))", "(((X())))", "(((a.b())))", "X(X(X(X())))", "a.b(a.b(a.b(a.b(1))))",
            "((((a)))).b=((((1))))",
            "if ((((1)))):\n pass", IN_DEF + "return (((super.f())))", IN_DEF + "super.f(super.f(super.f(super.f())))",
                "(1)+(1)+(1)+(1)+(1)");
        allWrong(1, "(((((1)))))", "((((1))))+(((((1)))))", "((((X()))))", "((((a.b()))))", "((((a.b(1)))))", "X(X(X(X(X()))))",
            "X(X(X(X(X(1)))))",
            "a.b(a.b(a.b(a.b(a.b()))))", "(((((a))))).b=1", "a.b=(((((1)))))", "if (((((1))))):\n pass", "print (X((a.b((1)))))",
                "((((1+(2)))))");
        allWrong(3, IN_DEF + "return ((((super.f()))))", IN_DEF + "super.f(super.f(super.f(super.f(super.f()))))");
    }

    // ---- Blocks ----

    private static void whatABlockEncloses() {
        Script.sentence("It encloses the lines after it that are deeper indented, up to the next line that is not blank and not deeper");
        Script s = new Script();
        s.prints("if 0:\n print 1\n\n print 2\nprint 3", 3);
        s.prints("if 0:\n   print 1\n   if 1:\n    print 2\n   print 3\nprint 4", 4);
        s.prints("if 1:\n if 0:\n  print 1\n print 2\nprint 3", 2, 3);
        s.prints("n=0\nwhile n<2:\n n=n+1\n if 0:\n  pass\n\n print n\nprint 9", 1, 2, 9);
        s.prints("class A:\n def f(s):\n  if 0:\n   pass\n\n  return 5\n def g(s):\n  return 6\nprint A().f()+A().g()", 11);
        // From the deepest level back to the first, past an else line on each.
        s.prints("if 1:\n if 1:\n  if 1:\n   if 1:\n    if 1:\n     if 1:\n      if 1:\n       if 1:\n        print 1\n       else:\n"
            + "        pass\n      else:\n       pass\n"
            + "     else:\n      pass\n    else:\n     pass\n   else:\n    pass\n  else:\n   pass\n else:\n  pass\nelse:\n pass\n"
            + "print 2", 1, 2);
    }

    private static void firstIsNotIndented() {
        Script.sentence("L is wrong if V is none and L is indented");
        for (int indent = 1; indent <= 8; indent++) {
            wrongTokens(2, 40 + indent, 10);
            wrongTokens(3, 48, 40 + indent, 10, 40, 10);
        }
        allRight("\npass", "        \npass".stripLeading(), "\n        \npass", "\n\n\npass");
    }

    private static void deeperAfterAnOpener() {
        Script.sentence("if V is an opener and L is not deeper than V");
        allWrong(2, "if 1:\npass", "while 1:\npass", "try:\npass", "try:\nexcept e:\n pass", "class A:\npass", "if 1:\nif 1:\n pass",
            "if 1:\nelse:\n pass");
        allWrong(3, "if 1:\n if 1:\n pass", "if 1:\n if 1:\npass", "class A:\n def f(s):\n pass", "class A:\n def f(s):\nb=1",
            "if 1:\n\npass",
            "if 1:\n  if 1:\n pass");
        allWrong(4, "if 1:\n pass\nelse:\npass", "try:\n pass\nexcept e:\npass", "if 1:\n\n\npass");
        allRight("if 1:\n pass", "if 1:\n        pass", "if 1:\n  if 1:\n   pass", "class A:\n  def f(s):\n     pass");
    }

    private static void notDeeperAfterAnother() {
        Script.sentence("if V is no opener and L is deeper than V");
        for (String line : new String[] {"pass", "print 1", "raise 1", "1", "a=1", "a.b=1", "X.b=1"}) {
            Script.isWrong(line + "\n pass", 2);
            Script.isWrong(line + "\n        pass", 2);
            Script.isWrong(line + "\n\n pass", 3);
            Script.isRight(line + "\npass");
        }
        allWrong(3, "if 1:\n pass\n  pass", "if 1:\n  pass\n   pass");
        allWrong(4, IN_DEF + "return 1\n   pass");
    }

    private static void backToALevel() {
        Script.sentence("if V is no opener and U is none or not as deep as L");
        allWrong(3, "if 1:\n  pass\n pass", "if 1:\n        pass\n       pass");
        allWrong(4, "if 1:\n if 1:\n   pass\n  pass", "if 1:\n  if 1:\n    pass\n pass", "if 1:\n  if 1:\n    pass\n   pass",
            "if 1:\n  pass\n\n pass");
        allWrong(6, "if 1:\n  pass\nelse:\n    if 1:\n      pass\n  pass");
        allRight("if 1:\n  pass\n  pass\npass", "if 1:\n  if 1:\n    pass\n  pass\npass", "if 1:\n  if 1:\n    pass\npass",
            "if 1:\n  pass\nelse:\n    pass\n    pass", "if 1:\n  pass\nif 1:\n pass");
    }

    private static void elseLines() {
        Script.sentence("else is wrong unless U is an if line as deep as it");
        allRight("if 1:\n pass\nelse:\n pass", "if 1:\n if 1:\n  pass\nelse:\n pass", "if 1:\n if 1:\n  pass\n else:\n  pass\nelse:\n pass",
            "if 1:\n   pass\n\nelse:\n pass");
        allWrong(1, "else:\n pass");
        allWrong(2, "pass\nelse:\n pass", "if 1:\n else:\n  pass");
        allWrong(3, "while 1:\n pass\nelse:\n pass", "class A:\n pass\nelse:\n pass", "if 1:\n pass\n else:\n  pass",
            "if 1:\n  pass\n else:\n  pass",
            "\n\nelse:\n pass", "try:\n pass\nelse:\n pass");
        allWrong(4, "if 1:\n pass\npass\nelse:\n pass", "if 1:\n while 1:\n  pass\n else:\n  pass");
        allWrong(5, "if 1:\n pass\nelse:\n pass\nelse:\n pass", "try:\n pass\nexcept e:\n pass\nelse:\n pass");
    }

    private static void exceptLines() {
        Script.sentence("except unless U is a try line as deep as it");
        allRight("try:\n pass\nexcept e:\n pass", "try:\n try:\n  pass\n except e:\n  pass\nexcept e:\n pass",
            "try:\n   pass\n\nexcept e:\n pass");
        allWrong(1, "except e:\n pass");
        allWrong(2, "pass\nexcept e:\n pass", "try:\n except e:\n  pass");
        allWrong(3, "if 1:\n pass\nexcept e:\n pass", "while 1:\n pass\nexcept e:\n pass", "class A:\n pass\nexcept e:\n pass",
            "try:\n pass\n except e:\n  pass", "try:\n  pass\n except e:\n  pass");
        allWrong(4, "try:\n if 1:\n  pass\n except e:\n  pass");
        allWrong(5, "try:\n pass\nexcept e:\n pass\nexcept e:\n pass");
        allWrong(6, "try:\n pass\nexcept e:\n pass\npass\nexcept e:\n pass");
    }

    private static void triesNeedAnExcept() {
        Script.sentence("A line that is not deeper than some try line T before it, .. is wrong unless it is an except line as deep as T");
        allWrong(3, "try:\n pass\npass", "try:\n pass\nif 1:\n pass", "try:\n pass\ntry:\n pass\nexcept e:\n pass",
            "try:\n pass\nelse:\n pass",
            "try:\n pass\na=1", "try:\n pass\nclass A:\n pass");
        allWrong(4, "if 1:\n try:\n  pass\n pass", "if 1:\n try:\n  pass\npass", "if 1:\n try:\n  pass\nelse:\n pass",
            "if 1:\n try:\n  pass\nexcept e:\n pass", "try:\n try:\n  pass\nexcept e:\n pass", "try:\n if 1:\n  pass\npass",
                "try:\n pass\n\npass");
        allWrong(5, IN_DEF + "try:\n   pass\n def g(s):\n  pass", IN_DEF + "try:\n   pass\na=1", "try:\n try:\n  if 1:\n   pass\n"
            + "except e:\n pass");
        // A blank line is no such line, a deeper line neither, and an except line ends the wait.
        allRight("try:\n pass\n\nexcept e:\n pass", "try:\n if 1:\n  pass\n pass\nexcept e:\n pass\npass",
            "try:\n pass\nexcept e:\n pass\npass\npass",
            "if 1:\n try:\n  pass\n except e:\n  pass\nelse:\n pass");
    }

    private static void noClassInAClass() {
        Script.sentence("class is wrong inside a class block.");
        allWrong(2, "class A:\n class B:\n  pass");
        allWrong(3, "class A:\n pass\n class B:\n  pass", IN_DEF + "class B:\n   pass", "if 1:\n class A:\n  class B:\n   pass");
        allWrong(4, IN_DEF + "if 1:\n   class B:\n    pass", "if 1:\n class A:\n  def f(s):\n   class B:\n    pass",
            "class A:\n def f(s):\n  pass\n class B:\n  pass");
        allWrong(6, "if 1:\n if 1:\n  class A:\n   def f(s):\n    while 1:\n     class B:\n      pass");
        allWrong(8, "class A:\n def f(s):\n  if 1:\n   if 1:\n    if 1:\n     if 1:\n      if 1:\n       class B:\n        pass");
        allRight("class A:\n pass\nclass B:\n pass", "if 1:\n class A:\n  pass\n class B:\n  pass\nelse:\n class A:\n  pass",
            "while 0:\n class A:\n  pass",
            "try:\n class A:\n  pass\nexcept e:\n class A:\n  pass", "class A:\n def f(s):\n  pass\nclass B:\n pass");
    }

    private static void directlyInAClass() {
        Script.sentence("The lines directly in a class block must be pass, def or NAME = E");
        allRight("class A:\n pass\n a=1\n def f(s):\n  pass\n a=2\n pass", "class A:\n def f(s):\n  print 1\n  s.b=1\n  if 1:\n   raise 1");
        for (String line : new String[] {"print 1", "raise 1", "1", "a", "a.b=1", "X.b=1", "if 1:\n  pass", "while 0:\n  pass",
            "try:\n  pass\n except e:\n  pass", "class B:\n  pass", "return 1"}) {
            Script.isWrong("class A:\n " + line, 2);
            Script.isWrong("class A:\n pass\n def f(s):\n  pass\n " + line, 5);
            Script.isWrong("if 1:\n class A:\n  a=1\n\n  " + line.replace("\n", "\n "), 5);
        }
    }

    private static void defsStandThereAlone() {
        Script.sentence("def stands nowhere else");
        allWrong(1, "def f(s):\n pass");
        allWrong(2, "if 1:\n def f(s):\n  pass", "while 1:\n def f(s):\n  pass", "try:\n def f(s):\n  pass\nexcept e:\n pass",
            "pass\ndef f(s):\n pass");
        allWrong(3, IN_DEF + "def g(s):\n   pass", "class A:\n pass\ndef f(s):\n pass");
        allWrong(4, IN_DEF + "if 1:\n   def g(s):\n    pass");
        allRight("class A:\n def f(s):\n  pass\n def f(s):\n  pass", "if 1:\n class A:\n  def f(s):\n   pass");
    }

    private static void returnAndSuper() {
        Script.sentence("return lines and super stand only inside a def block.");
        for (String line : new String[] {"return 1", "super.f()", "a=super.f(1)", "print 1+(super.f())", "super.f().b=1", "X.a=super.f()",
            "if super.f():\n pass", "while super.f():\n pass", "raise X().h(super.f())"}) {
            Script.isWrong(line, 1);
            Script.isWrong("if 1:\n " + line.replace("\n", "\n "), 2);
            Script.isWrong(IN_DEF + "pass\n" + line, 4);
            Script.isRight(IN_DEF + line.replace("\n", "\n  "));
            Script.isRight(IN_DEF + "if 1:\n   " + line.replace("\n", "\n   "));
            Script.isRight(IN_DEF + "try:\n   pass\n  except e:\n   " + line.replace("\n", "\n   "));
        }
        Script.isRight(IN_DEF + "if 1:\n   if 1:\n    if 1:\n     if 1:\n      if 1:\n       if 1:\n        return super.f()");
        Script.isWrong("class A:\n a=super.f()", 2);
        Script.isWrong(IN_DEF + "pass\n a=super.f()", 4);
        Script.isWrong(IN_DEF + "pass\n return 1", 4);
    }

    private static void endAfterAnOpener() {
        Script.sentence("After the last line comes the end: it is wrong if the last line that is not blank is an opener");
        allWrong(2, "if 1:", "while 1:", "try:", "class A:", "class A(X):");
        allWrong(3, "pass\nif 1:", "class A:\n def f(s):", "if 1:\n if 1:", "if 1:\n");
        allWrong(4, "if 1:\n pass\nelse:", "try:\n pass\nexcept e:", "if 1:\n\n        ");
        allRight("", "\n", "\n\n        ", "pass", "if 1:\n pass", "if 1:\n pass\n\n", "if 1:\n if 1:\n  pass");
    }

    private static void endAfterATry() {
        Script.sentence("or if a try line has no except line yet");
        allWrong(3, "try:\n pass");
        allWrong(4, "pass\ntry:\n pass", "try:\n if 1:\n  pass", "if 1:\n try:\n  pass", "try:\n pass\n");
        allWrong(6, "try:\n try:\n  pass\n except e:\n  pass", "try:\n pass\n\n        \n");
        allWrong(8, "try:\n pass\nexcept e:\n pass\nif 1:\n try:\n  pass");
        allRight("try:\n pass\nexcept e:\n pass", "try:\n try:\n  pass\n except e:\n  pass\nexcept e:\n pass",
            "if 1:\n try:\n  pass\n except e:\n  pass");
    }

    private static void numberOfTheWrongLine() {
        Script.sentence("The number of the first wrong line is lines() plus its place in the chunk (1 for the first); the end counts as "
            + "one more line.");
        Script s = new Script();
        s.runs("1 1", HostedScript.WRONG, 1);
        s.runs("pass\n\n1 1\n2 2\n3 3", HostedScript.WRONG, 3);
        s.runs("if 1:", HostedScript.WRONG, 2);
        s.runs("a=1\n\nb=2", HostedScript.DONE, 0);
        s.runs("1 1", HostedScript.WRONG, 4);
        s.runs("pass\n1 1\nif 1:", HostedScript.WRONG, 5);
        s.runs("if 1:", HostedScript.WRONG, 5);
        s.runs("try:\n pass\n\n", HostedScript.WRONG, 8);
        s.runs("q", HostedScript.NAME, 4);
        s.runs("1 1", HostedScript.WRONG, 5);
        Script.due("wrong chunks count no lines", s.host.lines(), 4);
    }
}
