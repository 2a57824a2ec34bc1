import java.io.IOException;
import java.nio.file.Files;
import java.nio.file.Path;
import java.util.List;
import java.util.regex.Matcher;
import java.util.regex.Pattern;

/** SENTENCES.md has the whole document, in its order, and each sentence has tests that are there. */
public final class SentencesTest {
    private static final Due due = new Due();
    private static final Path DOCUMENT = Path.of("../shared/DOC.md");
    private static final Path SENTENCES = Path.of("src/test/SENTENCES.md");
    private static final Pattern TEST = Pattern.compile("`(\\w+)\\.(\\w+)`");

    public static void main(String[] args) throws IOException {
        List<String> lines = Files.readAllLines(SENTENCES);
        StringBuilder all = new StringBuilder();
        for (int i = 0; i < lines.size(); i++) {
            if (lines.get(i).startsWith("> ")) {
                all.append(lines.get(i).substring(2)).append(' ');
                tests(lines.get(i), i + 2 < lines.size() ? lines.get(i + 2) : "");
            }
        }
        sameText(words(String.join("\n", Files.readAllLines(DOCUMENT))), words(all.toString()));
        due.end();
    }

    private static String[] words(String text) {
        return text.replaceAll("(?m)^```\\w*$", "").trim().split("\\s+");
    }

    private static void sameText(String[] document, String[] sentences) {
        int same = 0;
        while (same < Math.min(document.length, sentences.length) && document[same].equals(sentences[same])) {
            same++;
        }
        if (same < Math.max(document.length, sentences.length)) {
            System.out.println("SENTENCES.md goes another way than the document behind: "
                    + String.join(" ", List.of(document).subList(Math.max(0, same - 12), same)));
        }
        due.is("words of the document in SENTENCES.md", same, document.length);
        due.is("words of SENTENCES.md in the document", same, sentences.length);
    }

    private static void tests(String sentence, String tests) throws IOException {
        if (tests.startsWith("nothing to test: ")) {
            return;
        }
        Matcher m = TEST.matcher(tests);
        due.is("a test of " + sentence, m.find() ? 1 : 0, 1);
        m.reset();
        while (m.find()) {
            Path file = Path.of("src/test/java/" + m.group(1) + ".java");
            String text = Files.exists(file) ? Files.readString(file) : "";
            boolean isThere = text.contains("private static void " + m.group(2) + "() ");
            boolean isCalled = text.contains("        " + m.group(2) + "();\n");
            due.is(m.group() + " is there and called", isThere && isCalled ? 1 : 0, 1);
        }
    }
}
