import java.util.ArrayList;
import java.util.Arrays;
import java.util.Collections;
import java.util.HashMap;
import java.util.HashSet;
import java.util.LinkedHashMap;
import java.util.List;
import java.util.Map;
import java.util.Set;

/** The document once more, with trees, maps, exceptions and recursion: what HostedScript is compared with. */
final class Model {
    private static final class BadText extends RuntimeException {
        private static final long serialVersionUID = 1L;
    }

    private static final class Failure extends RuntimeException {
        private static final long serialVersionUID = 1L;
        final int kind;
        final int code;
        final int place;

        Failure(int kind, int code, int place) {
            super(null, null, false, false);
            this.kind = kind;
            this.code = code;
            this.place = place;
        }
    }

    private static final class Answer extends RuntimeException {
        private static final long serialVersionUID = 1L;
        final transient Object value;

        Answer(Object value) {
            super(null, null, false, false);
            this.value = value;
        }
    }

    private static final class Node {
        final String op;
        final int a;
        final int b;
        final Node[] kids;

        Node(String op, int a, int b, Node... kids) {
            this.op = op;
            this.a = a;
            this.b = b;
            this.kids = kids;
        }
    }

    private static final class Line {
        final List<Integer> tokens = new ArrayList<>();
        final List<Line> block = new ArrayList<>();
        int indent;
        int number;
        String kind;
        int[] names = {};
        Node left;
        Node right;
        Line partner;
        Line parent;

        boolean opens() {
            return tokens.get(tokens.size() - 1) == 25;
        }
    }

    private static final class Thing {
        final Type type;
        final Map<Integer, Object> own = new LinkedHashMap<>();

        Thing(Type type) {
            this.type = type;
        }
    }

    private static final class Type {
        int number;
        List<Type> order = new ArrayList<>();
        final Map<Integer, Object> entries = new HashMap<>();
    }

    private static final class Method {
        final Line def;
        final Type home;
        final Set<Integer> locals = new HashSet<>();

        Method(Line def, Type home) {
            this.def = def;
            this.home = home;
            for (int at = 1; at < def.names.length; at++) {
                locals.add(def.names[at]);
            }
            collect(def.block);
        }

        private void collect(List<Line> block) {
            for (Line line : block) {
                if (line.kind.equals("name=") || line.kind.equals("except")) {
                    locals.add(line.names[0]);
                }
                collect(line.block);
                if (line.partner != null) {
                    collect(Collections.singletonList(line.partner));
                }
            }
        }
    }

    private static final class Frame {
        Method method;
        Thing receiver;
        int number;
        final Map<Integer, Object> locals = new HashMap<>();
    }

    private static final Object NONE = "none";

    private final int objects;
    private final int steps;
    private final int depth;
    private final List<Integer> pending = new ArrayList<>();
    private int kept;
    int lines;
    private final Map<Integer, Object> globals = new HashMap<>();
    private final List<Type> types = new ArrayList<>();
    private final Map<Integer, Type> letters = new HashMap<>();
    private final List<Frame> frames = new ArrayList<>();
    private final List<Object> operands = new ArrayList<>();
    private int taken;
    final List<Integer> printed = new ArrayList<>();
    long result;
    int place;

    Model(int objects, int steps, int depth) {
        this.objects = Math.max(2, Math.min(8, objects));
        this.steps = Math.max(20, Math.min(200, steps));
        this.depth = Math.max(2, Math.min(6, depth));
        pending.addAll(Script.tokens("class X:\n def h(s,x):\n  return x*2\n def t(s,x):\n  return s.h(x)-s.h(x-1)"));
        List<Line> text = split();
        check(text);
        for (Line line : text) {
            line.number = 0;
        }
        start(() -> runBlock(tree(text)));
        pending.clear();
    }

    int put(int... tokens) {
        List<Integer> added = new ArrayList<>();
        for (int token : tokens) {
            if (token != 0) {
                added.add(token);
            }
        }
        if (kept + pending.size() + added.size() > 400) {
            return -1;
        }
        pending.addAll(added);
        return kept + pending.size();
    }

    int run() {
        List<Line> text = split();
        int wrong = check(text);
        int size = pending.size();
        pending.clear();
        result = 0;
        place = wrong;
        if (wrong != 0) {
            return 1;
        }
        kept += size;
        lines += text.size();
        List<Line> tree = tree(text);
        return start(() -> runBlock(tree));
    }

    int call(int variable, int method, int arg) {
        if (variable < 0 || variable > 25 || method < 0 || method > 25) {
            return -1;
        }
        return start(() -> {
            Object target = globals.get(variable);
            if (target == null) {
                throw failure(2);
            }
            result = shown(callMethod(target, method, arg));
        });
    }

    private int start(Runnable work) {
        frames.clear();
        frames.add(new Frame());
        operands.clear();
        taken = 0;
        result = 0;
        place = 0;
        int answer = 0;
        try {
            work.run();
        } catch (Failure failure) {
            answer = failure.kind;
            place = failure.place;
            result = failure.kind == 8 ? shown(failure.code) : 0;
        }
        frames.clear();
        operands.clear();
        return answer;
    }

    // ---- Looking in ----

    private static long shown(Object value) {
        if (value == null) {
            return 0;
        }
        if (value == NONE) {
            return 1L << 32;
        }
        if (value instanceof Integer) {
            return (2L << 32) + ((Integer) value & 0xFFFFFFFFL);
        }
        return value instanceof Thing ? (3L << 32) + ((Thing) value).type.number : 4L << 32;
    }

    long variable(int name) {
        return shown(globals.get(name));
    }

    long attribute(int variable, int name) {
        Object holder = globals.get(variable);
        return holder instanceof Thing ? shown(((Thing) holder).own.get(name)) : 0;
    }

    long entry(int number, int name) {
        return number < 0 || number >= types.size() ? 0 : shown(types.get(number).entries.get(name));
    }

    int order(int number, int at) {
        if (number < 0 || number >= types.size() || at < 0 || at >= types.get(number).order.size()) {
            return -1;
        }
        return types.get(number).order.get(at).number;
    }

    int named(int letter) {
        return letters.containsKey(letter) ? letters.get(letter).number : -1;
    }

    int printed(int back) {
        return back < 0 || back > 15 || back >= printed.size() ? 0 : printed.get(printed.size() - 1 - back);
    }

    int live() {
        Set<Thing> found = Collections.newSetFromMap(new java.util.IdentityHashMap<>());
        List<Object> open = new ArrayList<>(globals.values());
        for (Type type : types) {
            open.addAll(type.entries.values());
        }
        for (Frame frame : frames) {
            open.add(frame.receiver);
            open.addAll(frame.locals.values());
        }
        open.addAll(operands);
        while (!open.isEmpty()) {
            Object value = open.remove(open.size() - 1);
            if (value instanceof Thing && found.add((Thing) value)) {
                open.addAll(((Thing) value).own.values());
            }
        }
        return found.size();
    }

    // ---- Text ----

    private List<Line> split() {
        List<Line> text = new ArrayList<>();
        Line line = new Line();
        text.add(line);
        for (int token : pending) {
            if (token >= 40 && token <= 48) {
                line = new Line();
                line.indent = token - 40;
                text.add(line);
            } else {
                line.tokens.add(token);
            }
        }
        for (int at = 0; at < text.size(); at++) {
            text.get(at).number = lines + at + 1;
        }
        return text;
    }

    private static List<Line> solid(List<Line> text) {
        List<Line> solid = new ArrayList<>();
        for (Line line : text) {
            if (!line.tokens.isEmpty()) {
                solid.add(line);
            }
        }
        return solid;
    }

    private int check(List<Line> text) {
        List<Line> before = new ArrayList<>();
        for (Line line : solid(text)) {
            try {
                if (line.tokens.size() > 40) {
                    throw new BadText();
                }
                new Reader(line).read();
                checkPlace(before, line);
            } catch (BadText bad) {
                return line.number;
            }
            before.add(line);
        }
        boolean opened = !before.isEmpty() && before.get(before.size() - 1).opens();
        Line end = new Line();
        end.indent = -1;
        end.kind = "end";
        return opened || breaksTry(before, end) ? lines + text.size() + 1 : 0;
    }

    private static void need(boolean right) {
        if (!right) {
            throw new BadText();
        }
    }

    private static void checkPlace(List<Line> before, Line line) {
        Line v = before.isEmpty() ? null : before.get(before.size() - 1);
        Line u = null;
        for (Line other : before) {
            if (other.indent <= line.indent) {
                u = other;
            }
        }
        need(!(v == null && line.indent > 0));
        need(!(v != null && v.opens() && line.indent <= v.indent));
        need(!(v != null && !v.opens() && line.indent > v.indent));
        need(!(v != null && !v.opens() && (u == null || u.indent != line.indent)));
        if (line.kind.equals("else")) {
            need(u != null && u.kind.equals("if") && u.indent == line.indent);
        }
        if (line.kind.equals("except")) {
            need(u != null && u.kind.equals("try") && u.indent == line.indent);
        }
        need(!breaksTry(before, line));
        List<Line> around = new ArrayList<>();
        for (int at = 0; at < before.size(); at++) {
            Line opener = before.get(at);
            boolean encloses = opener.opens() && line.indent > opener.indent;
            for (Line between : before.subList(at + 1, before.size())) {
                encloses &= between.indent > opener.indent;
            }
            if (encloses) {
                around.add(opener);
            }
        }
        boolean inClass = around.stream().anyMatch(o -> o.kind.equals("class"));
        boolean inDef = around.stream().anyMatch(o -> o.kind.equals("def"));
        boolean direct = !around.isEmpty() && around.get(around.size() - 1).kind.equals("class");
        need(!(line.kind.equals("class") && inClass));
        need(!direct || Arrays.asList("pass", "def", "name=").contains(line.kind));
        need(!line.kind.equals("def") || direct);
        need(inDef || !line.kind.equals("return") && !line.tokens.contains(13));
        line.parent = around.isEmpty() ? null : around.get(around.size() - 1);
    }

    private static boolean breaksTry(List<Line> before, Line line) {
        for (int at = 0; at < before.size(); at++) {
            Line t = before.get(at);
            if (!t.kind.equals("try") || line.indent > t.indent) {
                continue;
            }
            boolean between = false;
            for (Line other : before.subList(at + 1, before.size())) {
                between |= other.indent <= t.indent;
            }
            if (!between && !(line.kind.equals("except") && line.indent == t.indent)) {
                return true;
            }
        }
        return false;
    }

    private static List<Line> tree(List<Line> text) {
        List<Line> top = new ArrayList<>();
        for (Line line : solid(text)) {
            List<Line> block = line.parent == null ? top : line.parent.block;
            if (line.kind.equals("else") || line.kind.equals("except")) {
                block.get(block.size() - 1).partner = line;
            } else {
                block.add(line);
            }
        }
        return top;
    }

    private static final class Reader {
        private final Line line;
        private List<Integer> tokens;
        private int at;

        Reader(Line line) {
            this.line = line;
            this.tokens = line.tokens;
        }

        private int peek() {
            return at < tokens.size() ? tokens.get(at) : 0;
        }

        private boolean take(int token) {
            if (peek() != token) {
                return false;
            }
            at++;
            return true;
        }

        private int letter(int first) {
            int token = peek();
            need(token >= first && token < first + 26);
            at++;
            return token - first;
        }

        private void kind(String kind, int... names) {
            line.kind = kind;
            line.names = names;
        }

        void read() {
            int open = 0;
            for (int token : tokens) {
                open += token == 21 ? 1 : token == 22 ? -1 : 0;
                need(open <= 4);
            }
            readLine();
            need(at == tokens.size());
        }

        private void readLine() {
            if (take(10)) {
                kind("pass");
            } else if (take(11)) {
                kind("print");
                line.right = readE();
            } else if (take(3)) {
                kind("return");
                line.right = readE();
            } else if (take(9)) {
                kind("raise");
                line.right = readE();
            } else if (take(4)) {
                kind("if");
                line.right = readE();
                need(take(25));
            } else if (take(6)) {
                kind("while");
                line.right = readE();
                need(take(25));
            } else if (take(5)) {
                kind("else");
                need(take(25));
            } else if (take(7)) {
                kind("try");
                need(take(25));
            } else if (take(8)) {
                kind("except", letter(100));
                need(take(25));
            } else if (take(1)) {
                readClass();
            } else if (take(2)) {
                readDef();
            } else if (tokens.contains(26)) {
                readSetting();
            } else {
                kind("alone");
                line.right = readE();
            }
        }

        private void readClass() {
            int name = letter(130);
            if (take(25)) {
                kind("class", name);
                return;
            }
            need(take(21));
            int first = letter(130);
            if (take(23)) {
                kind("class", name, first, letter(130));
            } else {
                kind("class", name, first);
            }
            need(take(22) && take(25));
        }

        private void readDef() {
            int name = letter(100);
            need(take(21));
            int first = letter(100);
            if (take(23)) {
                int second = letter(100);
                need(first != second);
                kind("def", name, first, second);
            } else {
                kind("def", name, first);
            }
            need(take(22) && take(25));
        }

        private void readSetting() {
            int sign = tokens.indexOf(26);
            List<Integer> all = tokens;
            tokens = all.subList(0, sign);
            Node target = readP();
            need(at == sign);
            if (target.op.equals("name") && sign == 1) {
                kind("name=", target.a);
            } else if (target.op.equals("entry") && sign == 3) {
                kind("entry=", target.a, target.b);
            } else {
                need(sign >= 3 && tokens.get(sign - 2) == 24 && tokens.get(sign - 1) != 22 && target.op.equals("get"));
                kind("get=", target.a);
                line.left = target.kids[0];
            }
            tokens = all;
            at = sign + 1;
            line.right = readE();
        }

        private Node readE() {
            Node left = readS();
            if (take(27)) {
                return new Node("==", 0, 0, left, readS());
            }
            return take(28) ? new Node("<", 0, 0, left, readS()) : left;
        }

        private Node readS() {
            Node left = readM();
            while (true) {
                if (take(29)) {
                    left = new Node("+", 0, 0, left, readM());
                } else if (take(30)) {
                    left = new Node("-", 0, 0, left, readM());
                } else {
                    return left;
                }
            }
        }

        private Node readM() {
            Node left = readP();
            while (true) {
                if (take(31)) {
                    left = new Node("*", 0, 0, left, readP());
                } else if (take(32)) {
                    left = new Node("/", 0, 0, left, readP());
                } else {
                    return left;
                }
            }
        }

        private Node readP() {
            Node left = readQ();
            while (take(24)) {
                int name = letter(100);
                if (take(21)) {
                    Node arg = readArgument();
                    left = arg == null ? new Node("call", name, 0, left) : new Node("call", name, 0, left, arg);
                } else {
                    left = new Node("get", name, 0, left);
                }
            }
            return left;
        }

        private Node readArgument() {
            if (take(22)) {
                return null;
            }
            Node arg = readE();
            need(take(22));
            return arg;
        }

        private Node readQ() {
            int token = peek();
            if (token >= 1000) {
                at++;
                return new Node("number", token - 1000, 0);
            }
            if (token >= 100 && token < 126) {
                return new Node("name", letter(100), 0);
            }
            if (take(12)) {
                return new Node("none", 0, 0);
            }
            if (take(21)) {
                Node inner = readE();
                need(take(22));
                return inner;
            }
            if (take(13)) {
                need(take(24));
                int name = letter(100);
                need(take(21));
                Node arg = readArgument();
                return arg == null ? new Node("super", name, 0) : new Node("super", name, 0, arg);
            }
            int letter = letter(130);
            if (take(24)) {
                return new Node("entry", letter, letter(100));
            }
            need(take(21));
            Node arg = readArgument();
            return arg == null ? new Node("new", letter, 0) : new Node("new", letter, 0, arg);
        }
    }

    // ---- Running ----

    private Frame top() {
        return frames.get(frames.size() - 1);
    }

    private Failure failure(int kind) {
        return new Failure(kind, kind, top().number);
    }

    private void must(boolean holds, int kind) {
        if (!holds) {
            throw failure(kind);
        }
    }

    private void step(Line line) {
        top().number = line.number;
        must(taken < steps, 9);
        taken++;
    }

    private void runBlock(List<Line> block) {
        for (Line line : block) {
            step(line);
            runLine(line);
        }
    }

    private static boolean truth(Object value) {
        return value != NONE && !value.equals(0);
    }

    private void runLine(Line line) {
        switch (line.kind) {
            case "pass":
                break;
            case "alone":
                value(line.right);
                break;
            case "print":
                Object shown = value(line.right);
                must(shown instanceof Integer, 3);
                printed.add((Integer) shown);
                break;
            case "raise":
                Object code = value(line.right);
                must(code instanceof Integer, 3);
                throw new Failure(8, (Integer) code, line.number);
            case "return":
                throw new Answer(value(line.right));
            case "name=":
                Object value = value(line.right);
                if (line.parent != null && line.parent.kind.equals("class")) {
                    types.get(types.size() - 1).entries.put(line.names[0], value);
                } else {
                    set(line.names[0], value);
                }
                break;
            case "get=":
                runGetSetting(line);
                break;
            case "entry=":
                Object entry = value(line.right);
                Type type = letters.get(line.names[0]);
                must(type != null, 2);
                must(type.number != 0, 3);
                type.entries.put(line.names[1], entry);
                break;
            case "def":
                Type home = types.get(types.size() - 1);
                home.entries.put(line.names[0], new Method(line, home));
                break;
            case "class":
                runClass(line);
                break;
            case "if":
                if (truth(value(line.right))) {
                    runBlock(line.block);
                } else if (line.partner != null) {
                    runBlock(line.partner.block);
                }
                break;
            case "while":
                while (truth(value(line.right))) {
                    runBlock(line.block);
                    step(line);
                }
                break;
            default:
                runTry(line);
        }
    }

    private void set(int name, Object value) {
        Frame frame = top();
        if (frame.method != null && frame.method.locals.contains(name)) {
            frame.locals.put(name, value);
        } else {
            globals.put(name, value);
        }
    }

    private void runGetSetting(Line line) {
        Object holder = value(line.left);
        operands.add(holder);
        Object value = value(line.right);
        operands.remove(operands.size() - 1);
        must(holder instanceof Thing, 3);
        Map<Integer, Object> own = ((Thing) holder).own;
        must(own.size() < 4 || own.containsKey(line.names[0]), 7);
        own.put(line.names[0], value);
    }

    private void runTry(Line line) {
        int calls = frames.size();
        int held = operands.size();
        int code;
        try {
            runBlock(line.block);
            return;
        } catch (Failure failure) {
            if (failure.kind == 9) {
                throw failure;
            }
            code = failure.code;
        }
        frames.subList(calls, frames.size()).clear();
        operands.subList(held, operands.size()).clear();
        set(line.partner.names[0], code);
        runBlock(line.partner.block);
    }

    private void runClass(Line line) {
        List<List<Type>> lists = new ArrayList<>();
        List<Type> bases = new ArrayList<>();
        for (int at = 1; at < line.names.length; at++) {
            Type base = letters.get(line.names[at]);
            must(base != null, 2);
            bases.add(base);
            lists.add(new ArrayList<>(base.order));
        }
        lists.add(bases);
        Type made = new Type();
        made.order.add(made);
        while (true) {
            lists.removeIf(List::isEmpty);
            if (lists.isEmpty()) {
                break;
            }
            Type next = null;
            for (List<Type> list : lists) {
                Type head = list.get(0);
                boolean free = true;
                for (List<Type> other : lists) {
                    free &= !other.subList(1, other.size()).contains(head);
                }
                if (free) {
                    next = head;
                    break;
                }
            }
            must(next != null, 3);
            made.order.add(next);
            for (List<Type> list : lists) {
                if (list.get(0) == next) {
                    list.remove(0);
                }
            }
        }
        must(types.size() < 10, 7);
        made.number = types.size();
        types.add(made);
        letters.put(line.names[0], made);
        runBlock(line.block);
    }

    // ---- Expressions ----

    private static Type search(List<Type> list, int name) {
        Type found = null;
        for (Type type : list) {
            if (type.number == 0 && name == 19) {
                return type;
            }
            if (found == null && type.entries.containsKey(name)) {
                found = type;
            }
        }
        return found;
    }

    private Object found(Type type, int name) {
        Type holder = search(type.order, name);
        must(holder != null, 4);
        Object value = holder.entries.get(name);
        must(!(value instanceof Method), 3);
        return value;
    }

    private Object value(Node node) {
        switch (node.op) {
            case "number":
                return node.a;
            case "none":
                return NONE;
            case "name":
                Frame frame = top();
                boolean local = frame.method != null && frame.method.locals.contains(node.a);
                Object value = local ? frame.locals.get(node.a) : globals.get(node.a);
                must(value != null, 2);
                return value;
            case "get":
                Object holder = value(node.kids[0]);
                must(holder instanceof Thing, 3);
                Object own = ((Thing) holder).own.get(node.a);
                return own != null ? own : found(((Thing) holder).type, node.a);
            case "entry":
                Type type = letters.get(node.a);
                must(type != null, 2);
                return found(type, node.b);
            case "call":
                Object target = value(node.kids[0]);
                operands.add(target);
                Object arg = node.kids.length > 1 ? value(node.kids[1]) : null;
                operands.remove(operands.size() - 1);
                return callMethod(target, node.a, arg);
            case "super":
                Object passed = node.kids.length > 0 ? value(node.kids[0]) : null;
                Thing receiver = top().receiver;
                List<Type> order = receiver.type.order;
                List<Type> rest = order.subList(order.indexOf(top().method.home) + 1, order.size());
                return enter(search(rest, node.a), node.a, receiver, passed);
            case "new":
                return make(node);
            default:
                return compute(node);
        }
    }

    private Object make(Node node) {
        Object arg = node.kids.length > 0 ? value(node.kids[0]) : null;
        Type type = letters.get(node.a);
        must(type != null, 2);
        operands.add(arg);
        must(live() < objects, 7);
        operands.remove(operands.size() - 1);
        Thing made = new Thing(type);
        Type holder = search(type.order, 8);
        if (holder == null) {
            must(arg == null, 3);
            return made;
        }
        operands.add(made);
        enter(holder, 8, made, arg);
        operands.remove(operands.size() - 1);
        return made;
    }

    private Object callMethod(Object target, int name, Object arg) {
        must(target instanceof Thing, 3);
        Thing receiver = (Thing) target;
        must(!receiver.own.containsKey(name), 3);
        return enter(search(receiver.type.order, name), name, receiver, arg);
    }

    private Object enter(Type holder, int name, Thing receiver, Object arg) {
        must(holder != null, 4);
        Object found = holder.entries.get(name);
        must(found instanceof Method, 3);
        Method method = (Method) found;
        must(method.def.names.length - 1 == (arg == null ? 1 : 2), 3);
        must(frames.size() - 1 < depth, 6);
        Frame frame = new Frame();
        frame.method = method;
        frame.receiver = receiver;
        frame.locals.put(method.def.names[1], receiver);
        if (arg != null) {
            frame.locals.put(method.def.names[2], arg);
        }
        frames.add(frame);
        Object answer = NONE;
        try {
            runBlock(method.def.block);
        } catch (Answer given) {
            answer = given.value;
        }
        frames.remove(frames.size() - 1);
        return answer;
    }

    private Object compute(Node node) {
        Object left = value(node.kids[0]);
        operands.add(left);
        Object right = value(node.kids[1]);
        operands.remove(operands.size() - 1);
        if (node.op.equals("==")) {
            return left == right || left.equals(right) ? 1 : 0;
        }
        if (node.op.equals("+") && left instanceof Thing) {
            return callMethod(left, 0, right);
        }
        must(left instanceof Integer && right instanceof Integer, 3);
        int a = (Integer) left;
        int b = (Integer) right;
        switch (node.op) {
            case "+":
                return a + b;
            case "-":
                return a - b;
            case "*":
                return a * b;
            case "<":
                return a < b ? 1 : 0;
            default:
                must(b != 0, 5);
                return Math.floorDiv(a, b);
        }
    }
}
