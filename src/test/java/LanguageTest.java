import java.io.IOException;
import java.nio.file.Files;
import java.nio.file.Path;
import java.util.ArrayList;
import java.util.Arrays;
import java.util.HashMap;
import java.util.HashSet;
import java.util.LinkedHashMap;
import java.util.List;
import java.util.Map;
import java.util.Set;
import java.util.TreeSet;
import java.util.regex.Matcher;
import java.util.regex.Pattern;

/** The rules of LANGUAGE.md that can be seen in the text of the class. */
public final class LanguageTest {
    private static final Set<String> FACE = Set.of("HostedScript", "put", "run", "call", "result", "place", "lines",
        "variable", "attribute", "entry", "order", "named", "prints", "printed", "live");
    private static final Set<String> STATEMENTS = Set.of("if", "for", "while", "switch", "return", "do", "else");
    private static final List<String> BANNED = Arrays.asList("float", "double", "String", "Math", "Integer", "Long",
        "System", "Arrays", "Object", "import", "package", "null", "throw", "throws", "try", "catch", "finally",
        "synchronized", "assert", "instanceof", "interface", "enum", "record", "protected", "var", "this", "super",
        "->", "::", "@", "\"");

    private static final Map<String, String> METHODS = new LinkedHashMap<>();
    private static int wrong = 0;

    public static void main(String[] args) throws IOException {
        String source = Files.readString(Path.of("src/main/java/HostedScript.java"));
        String text = source.replaceAll("(?s)/\\*.*?\\*/", "").replaceAll("//[^\n]*", "");
        banned(text);
        members(text);
        findMethods(text);
        methodsStayShort();
        callsStayFlat();
        noCallInsideArguments();
        arrays(text);
        System.out.println(METHODS.size() + " methods looked at, " + wrong + " rules broken");
        if (wrong != 0) {
            System.exit(1);
        }
    }

    private static void must(boolean holds, String what) {
        if (!holds) {
            wrong++;
            System.out.println(what);
        }
    }

    private static void banned(String text) {
        for (String word : BANNED) {
            boolean isWord = Character.isLetter(word.charAt(0));
            String pattern = isWord ? "\\b" + word + "\\b" : Pattern.quote(word);
            must(!Pattern.compile(pattern).matcher(text).find(), "rules 2, 3, 6: " + word);
        }
        must(text.split("\\bclass\\b", -1).length == 2, "rule 1: one class");
    }

    private static void members(String text) {
        int fields = 0;
        for (String line : text.split("\n")) {
            if (!line.matches("    [a-z].*[;{]")) {
                continue;
            }
            must(line.matches("    (private|public) .*"), "rule 1: " + line);
            boolean isStatic = line.contains(" static ");
            boolean isMethod = line.endsWith("{");
            if (isStatic && !isMethod) {
                must(line.matches(".* static final (int|long) [A-Z_]+ = [^\\[]*;"), "rule 5: " + line);
            }
            fields += isStatic || isMethod ? 0 : 1;
        }
        must(fields <= 40, "rule 10: " + fields + " fields");
    }

    private static void findMethods(String text) {
        Matcher head = Pattern.compile("\n    (public|private) ([\\w\\[\\] ]*?)(\\w+)\\(([^)]*)\\) \\{\n(.*?)\n    \\}",
            Pattern.DOTALL).matcher(text);
        while (head.find()) {
            String name = head.group(3);
            must(FACE.contains(name) == head.group(1).equals("public"), "rule 1: " + name);
            must(!METHODS.containsKey(name), "two methods named " + name);
            must(!head.group(2).contains("["), "rule 4: " + name + " answers an array");
            must(head.group(4).split(",").length <= 7, "rule 10: parameters of " + name);
            METHODS.put(name, head.group(5));
        }
        must(METHODS.keySet().containsAll(FACE), "the face is whole");
    }

    private static void methodsStayShort() {
        METHODS.forEach((name, body) -> must(body.split("\n").length <= 58, "rule 10: " + name + " is long"));
    }

    private static Set<String> callsOf(String body) {
        Set<String> calls = new TreeSet<>();
        Matcher call = Pattern.compile("\\b(\\w+)\\(").matcher(body);
        while (call.find()) {
            if (!STATEMENTS.contains(call.group(1))) {
                calls.add(call.group(1));
            }
        }
        return calls;
    }

    private static void callsStayFlat() {
        Map<String, Integer> depths = new HashMap<>();
        for (String name : METHODS.keySet()) {
            int depth = depth(name, new ArrayList<>(), depths);
            must(!FACE.contains(name) || depth <= 6, "rule 10: calls from " + name + " go " + depth + " deep");
        }
        Set<String> called = new HashSet<>(FACE);
        METHODS.values().forEach(body -> called.addAll(callsOf(body)));
        METHODS.keySet().forEach(name -> must(called.contains(name), name + " is never called"));
    }

    private static int depth(String name, List<String> path, Map<String, Integer> depths) {
        if (path.contains(name)) {
            must(false, "rule 8: recursion " + path + " " + name);
            return 0;
        }
        if (depths.containsKey(name)) {
            return depths.get(name);
        }
        must(METHODS.containsKey(name), "rule 3: " + name + " is no method of the class");
        path.add(name);
        int most = 0;
        for (String other : callsOf(METHODS.getOrDefault(name, ""))) {
            most = Math.max(most, depth(other, path, depths));
        }
        path.remove(path.size() - 1);
        depths.put(name, most + 1);
        return most + 1;
    }

    private static void noCallInsideArguments() {
        METHODS.forEach((name, body) -> {
            List<Boolean> open = new ArrayList<>();
            Matcher piece = Pattern.compile("\\b(\\w+)\\(|\\(|\\)").matcher(body);
            while (piece.find()) {
                if (piece.group().equals(")")) {
                    open.remove(open.size() - 1);
                    continue;
                }
                boolean isCall = piece.group(1) != null && !STATEMENTS.contains(piece.group(1));
                must(!isCall || !open.contains(true), "rule 10: in " + name + ": " + piece.group() + " inside a call");
                open.add(isCall);
            }
        });
    }

    private static void arrays(String text) {
        for (String line : text.split("\n")) {
            must(!line.contains("new ") || line.matches("    private final (int|long)\\[\\] \\w+ = new (int|long)\\[[A-Z_]+\\];"),
                "rule 4: " + line);
        }
    }
}
