import java.io.IOException;
import java.lang.reflect.Method;
import java.lang.reflect.Modifier;
import java.nio.file.Files;
import java.nio.file.Path;
import java.util.ArrayList;
import java.util.Arrays;
import java.util.List;
import java.util.regex.Matcher;
import java.util.regex.Pattern;

/** The example of README.md must go as its comments say, and every call of the class be told there. */
public final class ReadmeTest {
    private static final Pattern CALL = Pattern.compile("script\\.(\\w+)\\(([^)]*)\\);\\s*// (?:answers (\\w+))?.*");

    public static void main(String[] args) throws ReflectiveOperationException, IOException {
        String readme = Files.readString(Path.of("README.md"));
        exampleGoesAsTold(block(readme, "text"), block(readme, "java"));
        for (Method method : HostedScript.class.getDeclaredMethods()) {
            if (Modifier.isPublic(method.getModifiers())) {
                Script.due("README tells " + method.getName(), readme.contains("`" + method.getName() + "(") ? 1 : 0, 1);
            }
        }
        Script.due("README tells how the tests are run", readme.contains(".ci/run") ? 1 : 0, 1);
        Script.end();
    }

    private static String block(String readme, String kind) {
        Matcher found = Pattern.compile("```" + kind + "\n(.*?)\n```", Pattern.DOTALL).matcher(readme);
        if (!found.find()) {
            throw new IllegalStateException("README.md has no block of " + kind);
        }
        return found.group(1);
    }

    private static void exampleGoesAsTold(String text, String example) throws ReflectiveOperationException {
        HostedScript script = new HostedScript(8, 200, 6);
        List<Integer> put = new ArrayList<>();
        int runs = 0;
        for (String line : example.split("\n")) {
            Matcher call = CALL.matcher(line);
            if (!call.matches()) {
                continue;
            }
            List<Integer> numbers = numbers(call.group(2));
            long answer = answer(script, call.group(1), numbers);
            if (call.group(1).equals("put") && runs == 0) {
                put.addAll(numbers);
            } else if (call.group(3) != null) {
                Script.due(line, answer, told(call.group(3)));
            }
            runs += call.group(1).equals("run") ? 1 : 0;
        }
        put.removeIf(token -> token == 0);
        Script.due("the tokens are those of the text", put.equals(Script.tokens(text)) ? 1 : 0, 1);
        Script.due("runs of the example", runs, 2);
    }

    private static List<Integer> numbers(String list) {
        List<Integer> numbers = new ArrayList<>();
        for (String piece : list.split(",")) {
            if (!piece.isBlank()) {
                numbers.add(Integer.parseInt(piece.strip()));
            }
        }
        return numbers;
    }

    private static long answer(HostedScript script, String name, List<Integer> numbers) throws ReflectiveOperationException {
        Class<?>[] types = new Class<?>[numbers.size()];
        Arrays.fill(types, int.class);
        Object answer = HostedScript.class.getMethod(name, types).invoke(script, numbers.toArray());
        return ((Number) answer).longValue();
    }

    private static long told(String word) throws ReflectiveOperationException {
        boolean isConstant = Character.isLetter(word.charAt(0));
        return isConstant ? HostedScript.class.getField(word).getInt(null) : Long.parseLong(word);
    }
}
