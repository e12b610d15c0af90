import java.io.IOException;
import java.lang.reflect.Method;
import java.lang.reflect.Modifier;
import java.nio.file.Files;
import java.nio.file.Path;
import java.util.List;
import java.util.regex.Matcher;
import java.util.regex.Pattern;
import java.util.stream.Stream;

/** What README.md shows is so: its example, its STATEMENTS, every call of the face, every test. */
public final class ReadmeTest {
    private static final Edge EDGE = new Edge("ReadmeTest");
    private static final Path ROOT = Path.of(System.getProperty("project.root", "."));

    public static void main(String[] args) throws IOException {
        String page = Files.readString(ROOT.resolve("README.md"));
        example(page.substring(page.indexOf("```java"), page.indexOf("```\n", page.indexOf("```java"))));
        statements(page.substring(page.indexOf("| STATEMENT |"), page.indexOf("### What calls answer")));
        for (Method method : CopyOfACopy.class.getDeclaredMethods()) {
            if (Modifier.isPublic(method.getModifiers())) {
                call(page, method);
            }
        }
        tests(page);
        EDGE.end();
    }

    private static void example(String code) {
        Used used = new Used();
        Matcher text = Pattern.compile("\"([^\"]*)\"").matcher(code);
        if (text.find()) {
            used.spell(text.group(1));
        }
        Matcher line = Pattern.compile("shop\\.(\\w+\\([^()]*\\)); *// (-?\\d+):").matcher(code);
        int shown = 0;
        while (line.find()) {
            EDGE.right("the example", new String[] {line.group(1)}, used.ask(line.group(1)), Long.parseLong(line.group(2)));
            shown++;
        }
        EDGE.right("the example's calls, each with its answer", new String[] {code}, code.split("shop\\.").length - 2, shown);
    }

    private static void statements(String table) {
        Matcher line = Pattern.compile("(?m)^\\| `([a-z]\\w+)` \\|").matcher(table);
        StringBuilder begins = new StringBuilder();
        while (line.find()) {
            EDGE.due("a STATEMENT of the table", 1, "tell(k5050505050;mm1;mh1;)", "spell(" + line.group(1) + ";)", "lock()");
            begins.append(line.group(1).charAt(0));
        }
        EDGE.right("every STATEMENT is told", new String[] {begins.toString()}, begins.toString().equals("lkmcusx") ? 1 : 0, 1);
    }

    /** A line of its own in one of the two tables, with as many arguments as the call takes. */
    private static void call(String page, Method method) {
        Matcher line = Pattern.compile("(?m)^\\| `" + method.getName() + "\\(([^)]*)\\)` \\|").matcher(page);
        int parameters = -1;
        int lines = 0;
        while (line.find()) {
            parameters = line.group(1).isEmpty() ? 0 : line.group(1).split(", ").length;
            lines++;
        }
        String[] told = {method.getName()};
        EDGE.right("a line for each call", told, lines, 1);
        EDGE.right("its arguments", told, parameters, method.getParameterCount());
    }

    private static void tests(String page) throws IOException {
        List<String> names;
        try (Stream<Path> files = Files.list(ROOT.resolve("src/test/java"))) {
            names = files.map(file -> file.getFileName().toString()).filter(name -> name.endsWith("Test.java")).toList();
        }
        for (String name : names) {
            String line = "\n| `" + name.substring(0, name.length() - 5) + "` |";
            EDGE.right("a line for each test", new String[] {name}, page.contains(line) ? 1 : 0, 1);
        }
    }
}
