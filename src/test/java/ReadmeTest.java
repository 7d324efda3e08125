import java.io.File;
import java.io.IOException;
import java.lang.reflect.Method;
import java.lang.reflect.Modifier;
import java.net.URL;
import java.net.URLClassLoader;
import java.nio.file.Files;
import java.nio.file.Path;
import java.nio.file.Paths;
import java.util.ArrayList;
import java.util.List;
import java.util.regex.Matcher;
import java.util.regex.Pattern;
import javax.tools.ToolProvider;

/** README.md: its example is compiled and answers as it says; its tables name every call and every test. */
public final class ReadmeTest {
    private static final Pattern CALL =
        Pattern.compile("(house\\.\\w+\\(.*\\)); *// (true|false|-?\\d+|\\w+Exception)\\b.*");

    public static void main(String[] args) throws Exception {
        String readme = Files.readString(Paths.get("README.md"));
        example(readme);
        calls(readme);
        tests(readme);
        Trial.end();
    }

    private static List<String> blocks(String readme) {
        List<String> all = new ArrayList<>();
        Matcher block = Pattern.compile("```java\n(.*?)```", Pattern.DOTALL).matcher(readme);
        while (block.find()) {
            all.add(block.group(1));
        }
        return all;
    }

    // The first block is a method; the second one calls, each with its answer behind it.
    private static void example(String readme) throws Exception {
        List<String> blocks = blocks(readme);
        Trial.due("blocks of Java in README.md", blocks.size(), 2);
        StringBuilder source = new StringBuilder("public final class ReadmeExample {\n").append(blocks.get(0));
        source.append("public static String told() {\nStringBuilder all = new StringBuilder();\n");
        StringBuilder due = new StringBuilder();
        for (String line : blocks.get(1).split("\n")) {
            Matcher call = CALL.matcher(line);
            if (call.matches()) {
                source.append("try { all.append(").append(call.group(1)).append("); } catch (RuntimeException e)")
                    .append(" { all.append(e.getClass().getSimpleName()); }\nall.append('\\n');\n");
                due.append(call.group(2)).append('\n');
            } else {
                Trial.due("a call without its answer: " + line, line.startsWith("house."), false);
                source.append(line).append('\n');
            }
        }
        source.append("return all.toString();\n}\n}\n");
        String[] got = told(source.toString()).split("\n", -1);
        String[] want = due.toString().split("\n", -1);
        Trial.due("answers of the example", got.length, want.length);
        for (int i = 0; i < want.length && i < got.length; i++) {
            Trial.due("call " + i + " of the example", got[i], want[i]);
        }
    }

    private static String told(String source) throws Exception {
        Path work = Files.createTempDirectory("readme");
        Path file = work.resolve("ReadmeExample.java");
        Files.writeString(file, source);
        int failed = ToolProvider.getSystemJavaCompiler().run(null, null, null,
            "-cp", System.getProperty("java.class.path"), "-d", work.toString(), file.toString());
        Trial.due("compiling the example", failed, 0);
        String told = "";
        if (failed == 0) {
            try (URLClassLoader loader = new URLClassLoader(new URL[] {work.toUri().toURL()})) {
                told = (String) loader.loadClass("ReadmeExample").getMethod("told").invoke(null);
            }
        }
        remove(work);
        return told;
    }

    private static void remove(Path work) throws IOException {
        for (File file : work.toFile().listFiles()) {
            Files.delete(file.toPath());
        }
        Files.delete(work);
    }

    private static void calls(String readme) {
        for (Method method : WardenHouse.class.getDeclaredMethods()) {
            if (Modifier.isPublic(method.getModifiers())) {
                Trial.due("the table has " + method.getName(), readme.contains("\n| `" + method.getName() + "("), true);
                Trial.due("the example has " + method.getName(), blocks(readme).toString().contains("house." + method.getName() + "("), true);
            }
        }
    }

    private static void tests(String readme) {
        int found = 0;
        for (String name : new File("src/test/java").list()) {
            if (name.endsWith("Test.java")) {
                found++;
                String test = name.substring(0, name.length() - ".java".length());
                Trial.due("a row of " + test, readme.contains("\n| `" + test + "` |"), true);
            }
        }
        Matcher row = Pattern.compile("\n\\| `\\w+Test` \\|").matcher(readme);
        Trial.due("rows of tests", row.results().count(), found);
    }
}
