import java.lang.reflect.Method;
import java.lang.reflect.Modifier;
import java.nio.file.Files;
import java.nio.file.Path;
import java.util.ArrayList;
import java.util.List;
import java.util.regex.Matcher;
import java.util.regex.Pattern;
import java.util.stream.Stream;

/** README.md's examples, line by line as one story, and the calls that its tables name. */
public final class ReadmeTest {
    /** A line of an example: perhaps a variable, a call, the answer that is due. */
    private static final Pattern LINE = Pattern.compile("(int (\\w+) = )?(x\\..*); *// (-?\\d+)(:.*)?");
    private static final int EXAMPLES_AT_LEAST = 40;

    private static int wrong = 0;

    private static void due(String what, Object got, Object want) {
        if (!want.equals(got)) {
            wrong++;
            System.out.println(what + " answered " + got + ", due is " + want);
        }
    }

    /** Called by the class that is made of the examples. */
    public static void answer(String line, long got, long want) {
        due("README's line " + line, got, want);
    }

    public static void main(String[] args) throws Exception {
        Path root = Path.of(args.length > 0 ? args[0] : ".");
        String readme = Files.readString(root.resolve("README.md"));
        tables(readme);
        testsAreTold(readme, root.resolve("src/test/java"));
        runExamples(readme);
        if (wrong > 0) {
            System.exit(1);
        }
        System.out.println("ReadmeTest: all is as due");
    }

    /** Each call stands at the head of a row, with as many numbers as it takes. */
    private static void tables(String readme) {
        for (Method m : WishTrees.class.getDeclaredMethods()) {
            if (!Modifier.isPublic(m.getModifiers())) {
                continue;
            }
            Matcher row = Pattern.compile("(?m)^\\| `" + m.getName() + "\\(([^)]*)\\)` \\|").matcher(readme);
            due("a row for " + m.getName(), row.find(), true);
            if (row.reset().find()) {
                int numbers = row.group(1).isEmpty() ? 0 : row.group(1).split(",").length;
                due("numbers of " + m.getName(), numbers, m.getParameterCount());
            }
        }
    }

    private static void testsAreTold(String readme, Path tests) throws Exception {
        try (Stream<Path> files = Files.list(tests)) {
            for (Path file : files.toList()) {
                String name = file.getFileName().toString().replace(".java", "");
                due("README tells of " + name, readme.contains("`" + name + "`"), true);
            }
        }
    }

    private static void runExamples(String readme) throws Exception {
        List<String> body = new ArrayList<>();
        Matcher block = Pattern.compile("(?s)```java\n(.*?)```").matcher(readme);
        while (block.find()) {
            for (String line : block.group(1).split("\n")) {
                body.add(held(line));
            }
        }
        due("enough lines of examples", body.size() >= EXAMPLES_AT_LEAST, true);
        compileAndRun(body);
    }

    /** The line of Java that holds an example's line against its answer. */
    private static String held(String line) {
        Matcher parts = LINE.matcher(line);
        if (!parts.matches()) {
            due("a line without an answer", line, "WishTrees x = new WishTrees();");
            return line;
        }
        String name = parts.group(2);
        String first = name == null ? "" : "int " + name + " = " + parts.group(3) + "; ";
        String got = name == null ? parts.group(3) : name;
        return first + "ReadmeTest.answer(\"" + line.replace("\"", "\\\"") + "\", " + got + ", " + parts.group(4) + ");";
    }

    /** Beside this test's own class, where it finds the examples' class. */
    private static void compileAndRun(List<String> body) throws Exception {
        String folder = System.getProperty("java.class.path");
        Path source = Path.of(folder, "Examples.java");
        Files.writeString(source, "public final class Examples {\npublic static void run() {\n"
            + String.join("\n", body) + "\n}\n}\n");
        int refused = new ProcessBuilder("javac", "--release", "17", "-cp", folder, "-d", folder, source.toString())
            .inheritIO().start().waitFor();
        due("the compiler, of the examples", refused, 0);
        if (refused == 0) {
            Class.forName("Examples").getMethod("run").invoke(null);
        }
    }
}
