import java.util.ArrayList;
import java.util.List;

/** All promises: made-up scripts, right and wrong ones, must go as in the model. The scripts are the same each time. */
public final class ModelTest {
    private final StringBuilder text = new StringBuilder();
    private long seed;

    private ModelTest(long seed) {
        this.seed = seed * 0x9E3779B97F4A7C15L + 1;
    }

    public static void main(String[] args) {
        int count = args.length > 0 ? Integer.parseInt(args[0]) : 6000;
        int from = args.length > 1 ? Integer.parseInt(args[1]) : 0;
        int[] ends = new int[10];
        for (int at = from; at < from + count; at++) {
            if (!new ModelTest(at).compare(at, ends)) {
                System.exit(1);
            }
        }
        StringBuilder seen = new StringBuilder();
        for (int kind = 0; kind < 10; kind++) {
            seen.append(' ').append(ends[kind]);
            if (ends[kind] == 0) {
                System.out.println("no run ended with " + kind);
                System.exit(1);
            }
        }
        System.out.println(count + " objects went as in the model; runs and calls by their end 0 .. 9:" + seen);
    }

    // ---- Made-up scripts ----

    private int pick(int bound) {
        seed ^= seed << 13;
        seed ^= seed >>> 7;
        seed ^= seed << 17;
        return (int) ((seed >>> 20) % bound);
    }

    private boolean chance(int percent) {
        return pick(100) < percent;
    }

    private char of(String letters) {
        return letters.charAt(pick(letters.length()));
    }

    /** The roles have letters of their own, with some overlap, so that most searches find something. */
    private char variable(boolean inDef) {
        return inDef && chance(60) ? of("sx") : chance(2) ? of("qz") : of("bcdes");
    }

    private char method() {
        return chance(6) ? of("pqz") : of("haftgai");
    }

    private char attribute() {
        return chance(10) ? of("hatz") : of("pqrkmn");
    }

    private char classLetter() {
        return chance(2) ? of("ZYX") : of("ABCDX");
    }

    private String small() {
        return String.valueOf(chance(8) ? pick(2000000000) : pick(5));
    }

    private String expression(int size, boolean inDef) {
        if (size <= 0) {
            int kind = pick(12);
            return kind < 4 ? small() : kind == 4 ? "none" : kind == 5 ? classLetter() + "." + attribute()
                    : kind == 6 ? classLetter() + "()" : String.valueOf(variable(inDef));
        }
        int less = size - 1 - pick(2);
        switch (pick(inDef ? 15 : 12)) {
            case 0:
                return expression(less, inDef) + "+" + expression(less, inDef);
            case 1:
                return expression(less, inDef) + "-" + expression(less, inDef);
            case 2:
                return expression(less, inDef) + (chance(50) ? "*" : "/") + expression(less, inDef);
            case 3:
                String compared = expression(less, inDef) + (chance(50) ? "==" : "<") + expression(less, inDef);
                return chance(90) ? "(" + compared + ")" : compared;
            case 4:
                return "(" + expression(less, inDef) + ")";
            case 5:
            case 6:
            case 7:
                return postfix(less, inDef) + "." + method() + "(" + expression(less, inDef) + ")";
            case 8:
                return postfix(less, inDef) + "." + method() + "()";
            case 9:
            case 10:
                return postfix(less, inDef) + "." + attribute();
            case 11:
                return classLetter() + "(" + (chance(60) ? expression(less, inDef) : "") + ")";
            case 12:
                return "super." + method() + "()";
            default:
                return "super." + method() + "(" + expression(less, inDef) + ")";
        }
    }

    private String postfix(int size, boolean inDef) {
        if (chance(75)) {
            return String.valueOf(variable(inDef));
        }
        return chance(50) ? classLetter() + "()" : "(" + expression(size, inDef) + ")";
    }

    private void line(int indent, String content) {
        if (text.length() > 0 || indent > 0) {
            text.append('\n');
        }
        text.append(" ".repeat(indent)).append(content);
        if (chance(2)) {
            text.append('\n').append(" ".repeat(pick(9)));
        }
    }

    private void statement(int indent, boolean inDef, boolean inClass) {
        int deeper = indent + 1 + (chance(10) ? 1 : 0);
        int kind = pick(deeper > 7 || chance(60) ? 9 : inClass ? 15 : 16);
        String value = expression(pick(chance(20) ? 4 : 2), inDef);
        if (kind <= 2) {
            line(indent, variable(inDef) + "=" + value);
        } else if (kind == 3) {
            line(indent, value);
        } else if (kind == 4) {
            line(indent, "print " + value);
        } else if (kind == 5) {
            line(indent, inDef ? "return " + value : "pass");
        } else if (kind == 6 || kind == 7) {
            line(indent, postfix(1, inDef) + "." + attribute() + "=" + value);
        } else if (kind == 8) {
            line(indent, chance(30) ? "raise " + value : classLetter() + "." + attribute() + "=" + value);
        } else if (kind <= 10) {
            line(indent, "if " + value + ":");
            block(deeper, inDef, inClass, 2);
            if (chance(50)) {
                line(indent, "else:");
                block(deeper, inDef, inClass, 2);
            }
        } else if (kind == 11) {
            line(indent, "while " + value + ":");
            block(deeper, inDef, inClass, 2);
        } else if (kind <= 14) {
            line(indent, "try:");
            block(deeper, inDef, inClass, 2);
            line(indent, "except " + variable(inDef) + ":");
            block(deeper, inDef, inClass, 2);
        } else {
            classText(indent);
        }
    }

    private void block(int indent, boolean inDef, boolean inClass, int most) {
        int count = 1 + pick(most);
        for (int at = 0; at < count; at++) {
            statement(indent, inDef, inClass);
        }
    }

    private void classText(int indent) {
        String bases = chance(30) ? "" : "(" + classLetter() + (chance(40) ? "," + classLetter() : "") + ")";
        line(indent, "class " + of("ABCDABCDXE") + bases + ":");
        int count = 1 + pick(3);
        for (int at = 0; at < count; at++) {
            int kind = pick(10);
            if (kind == 0) {
                line(indent + 1, "pass");
            } else if (kind < 4) {
                line(indent + 1, (chance(10) ? method() : attribute()) + "=" + expression(pick(2), false));
            } else {
                line(indent + 1, "def " + method() + (chance(75) ? "(s,x):" : "(s):"));
                block(indent + 2, true, true, 2);
            }
        }
    }

    /** Classes and variables that let most of what follows get further than its first name. */
    private String prelude() {
        String[] methods = {"return super.h(x)+1", "return s.f(x-1)", "s.p=x", "if x<1:\n   return 7\n  return s.g(x-1)",
            "s=x\n  return A()", "return x.p", "try:\n   return s.f(x)\n  except e:\n   raise e+s.k", "return super.i(x)",
            "while x:\n   x=x-1\n  return s", "A.m=s\n  return s.r"};
        StringBuilder made = new StringBuilder();
        String[] heads = {"class A(X):", "class B" + (chance(70) ? "(A):" : ":"), "class C" + (chance(70) ? "(A):" : "(X):"),
            "class D(B,C):"};
        for (String head : heads) {
            made.append(head).append("\n ").append(attribute()).append('=').append(small()).append('\n');
            int count = pick(4);
            for (int at = 0; at < count; at++) {
                made.append(" def ").append(chance(4) ? 'i' : of("haftg")).append("(s,x):\n"
                    + "  ").append(methods[pick(methods.length)]).append('\n');
            }
        }
        for (char name : "bcde".toCharArray()) {
            made.append(name).append('=').append(chance(70) ? of("ABCD") + "()" : small()).append('\n');
        }
        return made.append("s=2").toString();
    }

    private List<Integer> chunk(boolean first) {
        text.setLength(0);
        if (first && chance(85)) {
            text.append(prelude());
            return Script.tokens(text.toString());
        }
        int count = 1 + pick(3);
        for (int at = 0; at < count; at++) {
            if (chance(15)) {
                classText(0);
            } else {
                statement(0, false, false);
            }
        }
        List<Integer> tokens = new ArrayList<>(Script.tokens(text.toString()));
        if (chance(15)) {
            int changes = 1 + pick(2);
            for (int at = 0; at < changes; at++) {
                spoil(tokens);
            }
        }
        return tokens;
    }

    private int anyToken() {
        switch (pick(6)) {
            case 0:
                return 1 + pick(13);
            case 1:
                return 21 + pick(12);
            case 2:
                return 40 + pick(9);
            case 3:
                return 100 + pick(26);
            case 4:
                return 130 + pick(26);
            default:
                return chance(50) ? 1000 + pick(9) : pick(1100) - 50;
        }
    }

    private void spoil(List<Integer> tokens) {
        int at = pick(tokens.size() + 1);
        int way = pick(4);
        if (way == 0 || at == tokens.size()) {
            tokens.add(at, anyToken());
        } else if (way == 1) {
            tokens.remove(at);
        } else if (way == 2) {
            tokens.set(at, anyToken());
        } else {
            tokens.add(at, tokens.get(at));
        }
    }

    // ---- Comparing ----

    private boolean compare(int number, int[] ends) {
        int objects = chance(60) ? 8 : pick(9);
        int steps = chance(70) ? 200 : 20 + pick(60);
        int depth = chance(60) ? 6 : pick(8);
        Model model = new Model(objects, steps, depth);
        HostedScript script = new HostedScript(objects, steps, depth);
        StringBuilder story = new StringBuilder("object " + number + ": " + objects + " " + steps + " " + depth);
        int actions = 3 + pick(25);
        for (int at = 0; at < actions; at++) {
            int got;
            int want;
            if (at == 0 || chance(60)) {
                List<Integer> tokens = chunk(at == 0);
                story.append("\nchunk ").append(tokens).append("\n").append(text);
                for (int from = 0; from < tokens.size(); from += 4) {
                    int[] four = new int[4];
                    for (int k = 0; k < 4 && from + k < tokens.size(); k++) {
                        four[k] = tokens.get(from + k);
                    }
                    want = model.put(four);
                    got = script.put(four[0], four[1], four[2], four[3]);
                    if (got != want) {
                        return differs(story, "put", got, want);
                    }
                }
                want = model.run();
                got = script.run();
            } else {
                int variable = chance(95) ? variable(false) - 'a' : pick(30) - 2;
                int method = chance(95) ? method() - 'a' : pick(30) - 2;
                int arg = pick(20) - 5;
                story.append("\ncall ").append(variable).append(' ').append(method).append(' ').append(arg);
                want = model.call(variable, method, arg);
                got = script.call(variable, method, arg);
            }
            story.append("\n-> ").append(want).append(" at ").append(model.place);
            if (want >= 0) {
                ends[want]++;
            }
            if (got != want) {
                return differs(story, "answer", got, want);
            }
            if (!sameState(model, script, story)) {
                return false;
            }
        }
        return true;
    }

    private static boolean differs(StringBuilder story, String what, long got, long want) {
        System.out.println(story);
        System.out.println(what + " answered " + got + ", the model says " + want);
        return false;
    }

    private static boolean sameState(Model model, HostedScript script, StringBuilder story) {
        long[] got = new long[2000];
        long[] want = new long[2000];
        int at = 0;
        got[at] = script.result();
        want[at++] = model.result;
        got[at] = script.place();
        want[at++] = model.place;
        got[at] = script.lines();
        want[at++] = model.lines;
        got[at] = script.prints();
        want[at++] = model.printed.size();
        got[at] = script.live();
        want[at++] = model.live();
        for (int back = -1; back <= 16; back++) {
            got[at] = script.printed(back);
            want[at++] = model.printed(back);
        }
        for (int name = -1; name <= 26; name++) {
            got[at] = script.variable(name);
            want[at++] = model.variable(name);
            got[at] = script.named(name);
            want[at++] = model.named(name);
            for (int other = -1; other <= 26; other++) {
                got[at] = script.attribute(name, other);
                want[at++] = model.attribute(name, other);
            }
            for (int number = -1; number <= 11; number++) {
                got[at] = script.entry(number, name);
                want[at++] = model.entry(number, name);
            }
        }
        for (int number = -1; number <= 11; number++) {
            for (int place = -1; place <= 12; place++) {
                got[at] = script.order(number, place);
                want[at++] = model.order(number, place);
            }
        }
        for (int k = 0; k < at; k++) {
            if (got[k] != want[k]) {
                return differs(story, "look " + k, got[k], want[k]);
            }
        }
        return true;
    }
}
