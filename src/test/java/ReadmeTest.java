import java.io.ByteArrayOutputStream;
import java.io.File;
import java.io.IOException;
import java.io.PrintStream;
import java.lang.reflect.Method;
import java.lang.reflect.Modifier;
import java.net.URL;
import java.net.URLClassLoader;
import java.nio.charset.StandardCharsets;
import java.nio.file.Files;
import java.nio.file.Path;
import java.util.regex.Matcher;
import java.util.regex.Pattern;
import javax.tools.ToolProvider;

/** README.md: its example compiles and prints what stands there; it names each call, each test and each code. */
public final class ReadmeTest {
    private static final Due due = new Due();

    public static void main(String[] args) throws IOException, ReflectiveOperationException {
        String readme = Files.readString(Path.of("README.md"));
        example(block(readme, "java"), block(readme, "text"));
        calls(readme);
        tests(readme);
        due.end();
    }

    private static String block(String readme, String kind) {
        Matcher m = Pattern.compile("(?s)\n```" + kind + "\n(.*?)```\n").matcher(readme);
        due.is("a block of " + kind, m.find() ? 1 : 0, 1);
        return m.group(1);
    }

    private static void example(String program, String wanted) throws IOException, ReflectiveOperationException {
        Path folder = Files.createTempDirectory("example");
        Path file = folder.resolve("Example.java");
        Files.writeString(file, program);
        int code = ToolProvider.getSystemJavaCompiler().run(null, null, null, "-Xlint:all", "-Werror", "-d",
                folder.toString(), "-cp", System.getProperty("java.class.path"), file.toString());
        due.is("the example compiles", code, 0);
        if (code == 0) {
            String[] got = printed(folder).split("\n");
            String[] want = wanted.split("\n");
            due.is("lines that the example prints", got.length, want.length);
            for (int i = 0; i < Math.min(got.length, want.length); i++) {
                due.is("<" + got[i] + "> where README.md has <" + want[i] + ">", got[i].equals(want[i]) ? 1 : 0, 1);
            }
        }
        for (File made : folder.toFile().listFiles()) {
            Files.delete(made.toPath());
        }
        Files.delete(folder);
    }

    private static String printed(Path folder) throws IOException, ReflectiveOperationException {
        ByteArrayOutputStream bytes = new ByteArrayOutputStream();
        PrintStream before = System.out;
        System.setOut(new PrintStream(bytes, true, StandardCharsets.UTF_8));
        try (URLClassLoader loader = new URLClassLoader(new URL[] {folder.toUri().toURL()})) {
            Method main = loader.loadClass("Example").getMethod("main", String[].class);
            main.invoke(null, (Object) new String[0]);
        } finally {
            System.setOut(before);
        }
        return bytes.toString(StandardCharsets.UTF_8).replace("\r", "");
    }

    /** Each with as many parameters as it has. */
    private static void calls(String readme) {
        for (Method method : BloomRooms.class.getDeclaredMethods()) {
            if (!Modifier.isPublic(method.getModifiers())) {
                continue;
            }
            int many = method.getParameterCount();
            String parameters = many == 0 ? "" : "\\w+" + ", \\w+".repeat(many - 1);
            boolean named = Pattern.compile("\n\\| (`\\w+\\(\\)`, )*`" + method.getName() + "\\(" + parameters + "\\)`")
                    .matcher(readme).find();
            due.is("README.md has " + method.getName() + " of " + many, named ? 1 : 0, 1);
        }
        for (int code = -7; code <= -2; code++) {
            due.is("README.md has " + code, readme.contains("\n| " + code + " |") ? 1 : 0, 1);
        }
    }

    private static void tests(String readme) {
        for (File file : new File("src/test/java").listFiles()) {
            String name = file.getName().replace(".java", "");
            due.is("README.md has " + name, readme.contains("`" + name + "`") ? 1 : 0, 1);
        }
        Matcher m = Pattern.compile("`(\\w+Test)`").matcher(readme);
        while (m.find()) {
            due.is(m.group(1) + " is there", new File("src/test/java/" + m.group(1) + ".java").exists() ? 1 : 0, 1);
        }
    }
}
