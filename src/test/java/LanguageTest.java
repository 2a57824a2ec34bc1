import java.io.IOException;
import java.nio.file.Files;
import java.nio.file.Path;
import java.util.List;
import java.util.regex.Matcher;
import java.util.regex.Pattern;

/** The rules of LANGUAGE.md that can be seen in the text of the class, by their numbers there. */
public final class LanguageTest {
    private static final Due due = new Due();
    private static final String FILE = "src/main/java/BloomRooms.java";

    private static final Pattern CLASS = Pattern.compile("( *)(public|private static) final class (\\w+) \\{");
    private static final Pattern METHOD = Pattern.compile(
            "( +)((?:private |public |static |final )*)(?:[\\w\\[\\]]+ )?(\\w+)\\((.*)\\) \\{");
    private static final List<String> NO_METHODS = List.of("if", "for", "while", "switch");

    public static void main(String[] args) throws IOException {
        String text = Files.readString(Path.of(FILE));
        String bare = bare(text);
        words(bare);
        imports(bare);
        classes(bare);
        methods(bare);
        fields(bare);
        news(bare);
        for (int i = 0; i < text.length(); i++) {
            if (text.charAt(i) > 126) {
                due.is("the sign at " + i, text.charAt(i), 126);
            }
        }
        due.end();
    }

    /** Without comments, and without what stands in texts. */
    private static String bare(String text) {
        return text.replaceAll("(?s)/\\*.*?\\*/", "").replaceAll("//[^\n]*", "").replaceAll("\"[^\"\n]*\"", "\"\"")
                .replaceAll("'[^'\n]+'", "'x'");
    }

    private static void none(int rule, String text, String pattern) {
        Matcher m = Pattern.compile(pattern).matcher(text);
        due.is("rule " + rule + ": " + pattern + (m.find() ? " stands in " + m.group() : ""), m.reset().find() ? 1 : 0,
                0);
    }

    private static void words(String text) {
        none(1, text, "\\bpackage\\b");
        none(2, text, "->|::|\\b(interface|abstract|extends|implements)\\b");
        none(3, text, "\\b(double|float|Object|var)\\b");
        none(4, text, "\\.(stream|format|valueOf|toString|hashCode|equals|split|sort)\\(|Exact\\(|\\bSystem\\.(?!arraycopy\\()");
        none(6, text, "\\b(throw|throws|try|catch|finally|synchronized|assert)\\b");
        none(9, text, "while \\(true\\)|for \\(;|;;\\)");
        none(10, text, "\"\" \\+|\\+ \"\"");
        none(13, text, "\\b(Random|Thread|Date|Clock|Instant|File|Path|currentTimeMillis|nanoTime|getenv)\\b");
        none(2, text, "@\\w+");
    }

    private static void imports(String text) {
        none(4, text, "import (?!java\\.util\\.(Arrays|ArrayList|List|Iterator);)");
    }

    private static void classes(String text) {
        int many = 0;
        for (String line : text.split("\n")) {
            Matcher m = CLASS.matcher(line);
            if (line.matches(".*\\b(class|enum|record)\\b.*")) {
                due.is("rule 2: " + line, m.matches() ? 1 : 0, 1);
                due.is("rule 1: " + line, m.matches() && m.group(1).isEmpty() == m.group(2).equals("public") ? 1 : 0, 1);
                many++;
            }
        }
        due.is("rule 11: at most twelve classes, there are " + many, many <= 12 ? 1 : 0, 1);
    }

    private static void methods(String text) {
        String[] lines = text.split("\n");
        int many = 0;
        for (int i = 0; i < lines.length; i++) {
            Matcher m = METHOD.matcher(lines[i]);
            if (!m.matches() || NO_METHODS.contains(m.group(3))) {
                continue;
            }
            int end = i;
            while (!lines[end].equals(m.group(1) + "}")) {
                end++;
            }
            int params = m.group(4).isEmpty() ? 0 : m.group(4).split(",").length;
            due.is("rule 11: lines of " + m.group(3) + ": " + (end - i), end - i <= 60 ? 1 : 0, 1);
            due.is("rule 11: parameters of " + m.group(3), params <= 7 ? 1 : 0, 1);
            many++;
        }
        due.is("methods were found", many > 100 ? 1 : 0, 1);
    }

    /** No more than some twenty of a class; static ones are final, and constants. */
    private static void fields(String text) {
        String inside = "";
        String before = "";
        int many = 0;
        for (String line : text.split("\n")) {
            Matcher m = CLASS.matcher(line);
            if (m.matches()) {
                inside = m.group(3);
                before = m.group(1) + "    ";
                many = 0;
            } else if (line.matches(" {4,8}(private )?static (?!final).*;")) {
                due.is("rule 5: " + line, 1, 0);
            } else if (line.matches(" {4,8}(public |private )?static final .*")) {
                due.is("rule 5: " + line, line.matches(".* (int|int\\[\\]|String) \\w+ = .*;|.* class .*") ? 1 : 0, 1);
            } else if (line.matches(before + "(private )?(final )?[\\w\\[\\]]+ \\w+( = .*)?;")) {
                many++;
                due.is("rule 11: fields of " + inside + ": " + many, many <= 20 ? 1 : 0, 1);
            }
        }
    }

    /** What is made is made with the object: no call makes anything. */
    private static void news(String text) {
        for (String line : text.split("\n")) {
            if (line.matches(".*\\bnew\\b.*")) {
                boolean ofField = line.matches(" {4,8}(private )?final [\\w\\[\\]]+ \\w+ = new .*;");
                boolean ofConstructor = line.matches(" {12,16}(images|kept)\\[i\\] = new (World|Law)\\(\\);");
                due.is("rule 12: " + line.trim(), ofField || ofConstructor ? 1 : 0, 1);
            }
        }
    }
}
