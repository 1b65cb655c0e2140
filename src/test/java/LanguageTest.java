import java.nio.file.Files;
import java.nio.file.Path;
import java.util.Arrays;
import java.util.TreeSet;
import java.util.regex.Matcher;
import java.util.regex.Pattern;

/** The class keeps to what can be seen of LANGUAGE.md in its text and in its face. */
public final class LanguageTest {
    private static final String[] FORBIDDEN = {
        "\\bthrow\\b", "\\bthrows\\b", "\\btry\\b", "\\bcatch\\b", "\\bsynchronized\\b", "\\bassert\\b", "->", "::", "@",
        "\\bpackage\\b", "\\bprotected\\b", "\\bNaN\\b", "\\w+Exact\\b", "System\\.(?!arraycopy\\b)", "Math\\.(?!(max|min|abs)\\b)",
        "Arrays\\.(?!(fill|copyOf)\\b)", "import (?!java\\.util\\.Arrays;)", "java\\.(?!util\\.Arrays;)", "\\bstatic \\{",
        "\" *\\+", "\\+ *\"", "\\bhashCode\\b", "\\btoString\\b", "\\bObject\\b", "\\bThread\\b", "\\bRandom\\b", "while \\(true\\)", "for \\(;;",
    };
    private static final String[] FACE = {
        "curve", "put", "term", "told", "as", "turns", "mix", "deal", "seed", "value", "times", "shape", "lowest", "slopes", "often",
        "blown", "tree", "corner", "power", "line", "all", "on", "genus", "both", "feed", "trim", "text", "textTold", "why", "sheet",
        "mark", "pour", "copy", "lay", "ask", "item", "rest", "tell", "check", "keep", "back", "count",
    };

    public static void main(String[] args) throws Exception {
        String source = Files.readString(Path.of("src/main/java/BentBranches.java"));
        String code = source.replaceAll("(?s)/\\*.*?\\*/", "").replaceAll("//[^\n]*", "").replaceAll("\"[^\"\n]*\"", "\"\"");
        for (String word : FORBIDDEN) {
            Matcher found = Pattern.compile(word).matcher(code);
            Due.is("'" + word + "' in the code", found.find() ? 1 : 0, 0);
        }
        Due.is("signs that are not ASCII", source.chars().filter(sign -> sign > 126).count(), 0);
        face();
        classes(code);
        methods(code);
        Due.end();
    }

    private static void face() throws Exception {
        TreeSet<String> due = new TreeSet<>(Arrays.asList(FACE));
        TreeSet<String> got = new TreeSet<>();
        for (var method : BentBranches.class.getDeclaredMethods()) {
            boolean open = java.lang.reflect.Modifier.isPublic(method.getModifiers());
            boolean closed = java.lang.reflect.Modifier.isPrivate(method.getModifiers());
            Due.is(method + " is public or private", open || closed ? 1 : 0, 1);
            if (open) {
                Due.is("one " + method.getName(), got.add(method.getName()) ? 1 : 0, 1);
            } else {
                Due.is("a private method with a public name: " + method, due.contains(method.getName()) ? 1 : 0, 0);
            }
        }
        Due.is("the face " + got, got.equals(due) ? 1 : 0, 1);
        int constants = 0;
        for (var field : BentBranches.class.getDeclaredFields()) {
            boolean closed = java.lang.reflect.Modifier.isPrivate(field.getModifiers());
            constants += closed ? 0 : 1;
            Due.is(field + " is one of the document's or private", closed || field.getType() == int.class ? 1 : 0, 1);
            boolean fixed = java.lang.reflect.Modifier.isFinal(field.getModifiers());
            Due.is(field + " is final, if static", !java.lang.reflect.Modifier.isStatic(field.getModifiers()) || fixed ? 1 : 0, 1);
        }
        Due.is("constants of the document", constants, 8);
    }

    private static void classes(String code) {
        int inside = BentBranches.class.getDeclaredClasses().length;
        Due.is("at most some twelve classes", inside < 12 ? 1 : 0, 1);
        fields(BentBranches.class);
        for (Class<?> one : BentBranches.class.getDeclaredClasses()) {
            fields(one);
        }
        Matcher all = Pattern.compile("(?m)^ *(.*)\\b(class|record|enum|interface) \\w+").matcher(code);
        while (all.find()) {
            boolean outer = all.group(1).equals("public final ");
            Due.is(all.group() + " is static", outer || all.group(1).contains("static") ? 1 : 0, 1);
        }
        for (Class<?> one : BentBranches.class.getDeclaredClasses()) {
            for (var method : one.getDeclaredMethods()) {
                Due.is("a public name again: " + method, Arrays.asList(FACE).contains(method.getName()) ? 1 : 0, 0);
            }
        }
    }

    private static void fields(Class<?> one) {
        int found = 0;
        for (var field : one.getDeclaredFields()) {
            found += java.lang.reflect.Modifier.isStatic(field.getModifiers()) ? 0 : 1;
        }
        Due.is("at most some twenty fields in " + one, found <= 20 ? 1 : 0, 1);
    }

    /** No method is longer than sixty lines or takes more than seven parameters. */
    private static void methods(String code) {
        String[] lines = code.split("\n", -1);
        for (int n = 0; n < lines.length; n++) {
            Matcher head = Pattern.compile("^( {4}| {8})(?! )[\\w\\[\\] ]+\\((.*)\\) \\{$").matcher(lines[n]);
            if (!head.find()) {
                continue;
            }
            int end = n;
            while (end < lines.length && !lines[end].equals(head.group(1) + "}")) {
                end++;
            }
            Due.is("a long method: " + lines[n].trim(), end - n <= 60 ? 1 : 0, 1);
            Due.is("many parameters: " + lines[n].trim(), head.group(2).split(",").length <= 7 ? 1 : 0, 1);
        }
    }
}
