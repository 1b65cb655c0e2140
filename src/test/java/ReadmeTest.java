import java.lang.reflect.Method;
import java.lang.reflect.Modifier;
import java.nio.file.Files;
import java.nio.file.Path;
import java.util.Arrays;
import java.util.List;
import java.util.regex.Matcher;
import java.util.regex.Pattern;

/** README.md tells the truth: its examples, its constants, its calls, its tests. */
public final class ReadmeTest {
    private static final Pattern CALL = Pattern.compile("x\\.(\\w+)\\(([^)]*)\\); *// ([-\\w]+)(:.*)?");
    private static final Pattern PROMISE = Pattern.compile("`(?:int|long) (\\w+\\([^)]*\\))`: .*");

    public static void main(String[] args) throws Exception {
        List<String> page = Files.readAllLines(Path.of("README.md"));
        examples(page);
        constants(page);
        calls(page);
        tests(String.join("\n", page));
        Due.end();
    }

    private static void examples(List<String> page) throws Exception {
        int first = page.indexOf("```java");
        int last = page.indexOf("```");
        BentBranches x = null;
        int asked = 0;
        for (String line : page.subList(first + 1, last)) {
            Matcher call = CALL.matcher(line);
            if (line.equals("BentBranches x = new BentBranches();")) {
                x = new BentBranches();
            } else if (call.matches()) {
                Due.is(line, Run.call(x, call.group(1), given(call.group(2))), due(call.group(3)));
                asked++;
            } else {
                Due.is("a line that is an example: " + line, line.isEmpty() || line.startsWith("//") ? 1 : 0, 1);
            }
        }
        Due.is("README.md has examples", asked > 0 ? 1 : 0, 1);
    }

    private static int[] given(String list) {
        return list.isEmpty() ? new int[0] : Arrays.stream(list.split(", ")).mapToInt(v -> Long.decode(v).intValue()).toArray();
    }

    private static long due(String word) throws Exception {
        return word.matches("-?\\d+") ? Long.parseLong(word) : BentBranches.class.getField(word).getInt(null);
    }

    private static void constants(List<String> page) throws Exception {
        int told = 0;
        for (var field : BentBranches.class.getFields()) {
            String row = "| `" + field.getName() + "` | " + field.getInt(null) + " | ";
            Due.is("rows '" + row + "'", page.stream().filter(line -> line.startsWith(row)).count(), 1);
            told++;
        }
        Due.is("constants", told, 8);
    }

    /** Each call of the document stands in the table, its arguments named as there, and no other call does. */
    private static void calls(List<String> page) throws Exception {
        List<String> promises = Files.readAllLines(Path.of("../shared/DOC.md"));
        int told = 0;
        for (String line : promises) {
            Matcher promise = PROMISE.matcher(line);
            if (promise.matches()) {
                String row = "| `" + promise.group(1).replaceAll("(int|long) ", "") + "` | ";
                Due.is("rows '" + row + "'", page.stream().filter(one -> one.startsWith(row)).count(), 1);
                told++;
            }
        }
        long open = Arrays.stream(BentBranches.class.getDeclaredMethods()).map(Method::getModifiers).filter(Modifier::isPublic).count();
        Due.is("calls that the document promises", told, open);
        Due.is("calls that README.md tells", page.stream().filter(line -> line.matches("\\| `\\w+\\(.*\\)` \\| .*")).count(), open);
    }

    private static void tests(String page) throws Exception {
        Due.is("the command that runs the tests", page.contains("\n    .ci/run\n") && Files.isExecutable(Path.of(".ci/run")) ? 1 : 0, 1);
        try (var files = Files.list(Path.of("src/test/java"))) {
            for (Path file : files.filter(one -> one.toString().endsWith("Test.java")).toList()) {
                String name = file.getFileName().toString().replace(".java", "");
                Due.is("README.md tells of " + name, Pattern.compile("\\b" + name + "\\b").matcher(page).find() ? 1 : 0, 1);
            }
        }
    }
}
