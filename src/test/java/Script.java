import java.util.ArrayList;
import java.util.Arrays;
import java.util.List;

/** A HostedScript that takes its text as text, and counts the answers that are not as due. */
final class Script {
    static final long NONE = 1L << 32;
    static final long METHOD = 4L << 32;

    private static final String[] WORDS = {"", "class", "def", "return", "if", "else", "while", "try", "except",
        "raise", "pass", "print", "none", "super"};
    private static final String[] SIGNS = {"(", ")", ",", ".", ":", "=", "==", "<", "+", "-", "*", "/"};
    private static int checks = 0;
    private static int wrong = 0;
    private static int sentences = 0;
    private static String sentence = "";

    final HostedScript host;

    Script(int objects, int steps, int depth) {
        host = new HostedScript(objects, steps, depth);
    }

    Script() {
        this(8, 200, 6);
    }

    static long number(int value) {
        return (2L << 32) + (value & 0xFFFFFFFFL);
    }

    static long object(int classNumber) {
        return (3L << 32) + classNumber;
    }

    /** The tokens of a text; the first line has no token of its own. */
    static List<Integer> tokens(String text) {
        List<Integer> tokens = new ArrayList<>();
        String[] lines = text.split("\n", -1);
        for (int at = 0; at < lines.length; at++) {
            String line = lines[at];
            int indent = line.length() - line.stripLeading().length();
            if (at > 0) {
                tokens.add(40 + indent);
            } else if (indent > 0) {
                throw new IllegalArgumentException("the first line can't be indented");
            }
            addLine(tokens, line);
        }
        return tokens;
    }

    private static void addLine(List<Integer> tokens, String line) {
        int at = 0;
        while (at < line.length()) {
            char c = line.charAt(at);
            int end = at + 1;
            if (Character.isLetterOrDigit(c)) {
                while (end < line.length() && Character.isLetterOrDigit(line.charAt(end))) {
                    end++;
                }
            } else if (line.startsWith("==", at)) {
                end = at + 2;
            }
            if (c != ' ') {
                tokens.add(token(line.substring(at, end)));
            }
            at = end;
        }
    }

    private static int token(String piece) {
        char c = piece.charAt(0);
        if (Character.isDigit(c)) {
            return 1000 + Integer.parseInt(piece);
        }
        if (piece.length() == 1 && Character.isLowerCase(c)) {
            return 100 + c - 'a';
        }
        if (piece.length() == 1 && Character.isUpperCase(c)) {
            return 130 + c - 'A';
        }
        int word = Arrays.asList(WORDS).indexOf(piece);
        int sign = Arrays.asList(SIGNS).indexOf(piece);
        if (word < 0 && sign < 0) {
            throw new IllegalArgumentException("no token: " + piece);
        }
        return word >= 0 ? word : 21 + sign;
    }

    /** Puts tokens four at a time; the answer of the last put. */
    int putTokens(List<Integer> tokens) {
        int answer = host.put(0, 0, 0, 0);
        for (int at = 0; at < tokens.size(); at += 4) {
            int[] four = new int[4];
            for (int k = 0; k < 4 && at + k < tokens.size(); k++) {
                four[k] = tokens.get(at + k);
            }
            answer = host.put(four[0], four[1], four[2], four[3]);
            if (answer == HostedScript.REFUSED) {
                throw new IllegalStateException("too much text for one object");
            }
        }
        return answer;
    }

    int put(String text) {
        return putTokens(tokens(text));
    }

    int run(String text) {
        put(text);
        return host.run();
    }

    int run(Integer... tokens) {
        putTokens(Arrays.asList(tokens));
        return host.run();
    }

    /** Runs a text that must end so, at that line. */
    void runs(String text, int answer, int place) {
        int got = run(text);
        due("run of <" + text + ">", got, answer);
        due("place after <" + text + ">", host.place(), place);
    }

    /** Runs a text that must be done, and whose prints must be these. */
    void prints(String text, int... values) {
        int before = host.prints();
        runs(text, HostedScript.DONE, 0);
        due("prints of <" + text + ">", host.prints() - before, values.length);
        for (int at = 0; at < values.length; at++) {
            int back = values.length - 1 - at;
            if (back < 16) {
                due("print " + at + " of <" + text + ">", host.printed(back), values[at]);
            }
        }
    }

    /** A new object must find this line of the text wrong, as the first, and keep nothing of it. */
    static void isWrong(String text, int line) {
        Script s = new Script();
        s.runs(text, HostedScript.WRONG, line);
        due("lines after <" + text + ">", s.host.lines(), 0);
        due("tokens after <" + text + ">", s.host.put(0, 0, 0, 0), 0);
    }

    /** A new object must keep the text, however its run ends. */
    static void isRight(String text) {
        Script s = new Script();
        int size = s.put(text);
        int answer = s.host.run();
        due("<" + text + "> is right", answer != HostedScript.WRONG ? 1 : 0, 1);
        due("lines of <" + text + ">", s.host.lines(), text.split("\n", -1).length);
        due("tokens of <" + text + ">", s.host.put(0, 0, 0, 0), size);
    }

    /** Calls v.m(arg) by the letters' names. */
    int call(char variable, char method, int arg) {
        return host.call(variable - 'a', method - 'a', arg);
    }

    void calls(char variable, char method, int arg, int answer, long result, int place) {
        String what = variable + "." + method + "(" + arg + ")";
        int got = call(variable, method, arg);
        due("call " + what, got, answer);
        due("result of " + what, host.result(), result);
        due("place of " + what, host.place(), place);
    }

    long variable(char name) {
        return host.variable(name - 'a');
    }

    long attribute(char variable, char name) {
        return host.attribute(variable - 'a', name - 'a');
    }

    long entry(int number, char name) {
        return host.entry(number, name - 'a');
    }

    int named(char letter) {
        return host.named(letter - 'A');
    }

    /** The whole order of a class must be this. */
    void order(int number, int... members) {
        for (int at = 0; at < members.length; at++) {
            due("order(" + number + ", " + at + ")", host.order(number, at), members[at]);
        }
        due("order(" + number + ", " + members.length + ")", host.order(number, members.length), -1);
    }

    /** The answers looked at from now on are due by this sentence of the document. */
    static void sentence(String words) {
        sentence = "\"" + words + "\": ";
        sentences++;
    }

    static void due(String what, long got, long want) {
        checks++;
        if (got != want) {
            wrong++;
            System.out.println(sentence + what.replace("\n", "\\n") + " answered " + got + ", due is " + want);
        }
    }

    /** Ends the test, with exit code 1 if an answer was not as due. */
    static void end() {
        String of = sentences > 0 ? " for " + sentences + " sentences" : "";
        System.out.println(checks + " answers looked at" + of + ", " + wrong + " not as due");
        if (wrong != 0) {
            System.exit(1);
        }
    }
}
