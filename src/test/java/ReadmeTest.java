import java.io.IOException;
import java.lang.reflect.Method;
import java.lang.reflect.Modifier;
import java.nio.file.DirectoryStream;
import java.nio.file.Files;
import java.nio.file.Path;
import java.util.HashMap;
import java.util.List;
import java.util.Map;
import java.util.Set;
import java.util.TreeSet;
import java.util.regex.Matcher;
import java.util.regex.Pattern;

/** What README.md says: the answers in its example, and that its tables name every call and every test. */
public final class ReadmeTest {
    private static final String BEGIN = "DockyardSlots yard = new DockyardSlots();";
    /** A type, a name, a call, its arguments, and behind the sign of a comment its answer, up to a colon. */
    private static final Pattern STATEMENT =
        Pattern.compile("(\\w+) (\\w+) = yard\\.(\\w+)\\((.*)\\); +// ([^:]+)(: .*)?");

    private final Check check = new Check();
    private final Map<String, Method> calls = new HashMap<>();
    private final Map<String, String> answers = new HashMap<>();

    public static void main(String[] args) throws IOException {
        List<String> lines = Files.readAllLines(Path.of("README.md"));
        ReadmeTest test = new ReadmeTest();
        test.listCalls();
        test.example(lines);
        test.callsAreNamed(lines);
        test.testsAreNamed(lines);
        test.check.end();
    }

    private void listCalls() {
        for (Method method : DockyardSlots.class.getDeclaredMethods()) {
            if (Modifier.isPublic(method.getModifiers())) {
                calls.put(method.getName(), method);
            }
        }
    }

    private void example(List<String> lines) {
        int begin = lines.indexOf("```java") + 1;
        check.due("the example begins", BEGIN, () -> lines.get(begin));
        DockyardSlots x = new DockyardSlots();
        int end = begin + 1;
        while (end < lines.size() && !lines.get(end).equals("```")) {
            statement(x, lines.get(end));
            end++;
        }
        int statements = end - begin - 1;
        check.due("the example has statements", true, () -> statements > 0);
    }

    private void statement(DockyardSlots x, String line) {
        Matcher matcher = STATEMENT.matcher(line);
        boolean isStatement = matcher.matches() && calls.containsKey(matcher.group(3));
        check.due("is a statement with its answer: " + line, true, () -> isStatement);
        if (isStatement) {
            String name = matcher.group(3);
            check.due("type: " + line, matcher.group(1), () -> calls.get(name).getReturnType().getSimpleName());
            String got = Script.answer(x, name + words(matcher.group(4)));
            check.due(line, withoutQuotes(matcher.group(5)), () -> got);
            answers.put(matcher.group(2), got);
        }
    }

    /** The arguments as Script takes them, a name replaced by the answer that was given to it. */
    private String words(String arguments) {
        StringBuilder text = new StringBuilder();
        for (String each : arguments.split(", *")) {
            if (!each.isEmpty()) {
                text.append(' ').append(answers.getOrDefault(each, withoutQuotes(each)));
            }
        }
        return text.toString();
    }

    private static String withoutQuotes(String text) {
        return text.trim().replace("'", "");
    }

    private void callsAreNamed(List<String> lines) {
        Set<String> named = new TreeSet<>();
        for (String line : tableUnder(lines, "| For | Calls |")) {
            named.addAll(inBackquotes(line));
        }
        check.due("the calls", new TreeSet<>(calls.keySet()), () -> named);
    }

    private void testsAreNamed(List<String> lines) throws IOException {
        Set<String> tests = new TreeSet<>();
        try (DirectoryStream<Path> files = Files.newDirectoryStream(Path.of("src/test/java"), "*Test.java")) {
            for (Path file : files) {
                tests.add(file.getFileName().toString().replace(".java", ""));
            }
        }
        Set<String> named = new TreeSet<>();
        for (String line : tableUnder(lines, "| Test | What it tests |")) {
            named.addAll(inBackquotes(line.substring(0, line.indexOf('|', 1))));
        }
        check.due("the tests", tests, () -> named);
    }

    /** The rows of a table, without its head and the line below that. */
    private static List<String> tableUnder(List<String> lines, String head) {
        int begin = Math.min(lines.indexOf(head) + 2, lines.size());
        int end = begin;
        while (end < lines.size() && lines.get(end).startsWith("|")) {
            end++;
        }
        return lines.subList(begin, end);
    }

    private static Set<String> inBackquotes(String line) {
        Set<String> result = new TreeSet<>();
        Matcher matcher = Pattern.compile("`(\\w+)`").matcher(line);
        while (matcher.find()) {
            result.add(matcher.group(1));
        }
        return result;
    }
}
