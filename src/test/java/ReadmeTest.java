import java.io.File;
import java.nio.file.Files;
import java.nio.file.Path;
import java.util.ArrayList;
import java.util.List;
import java.util.regex.Matcher;
import java.util.regex.Pattern;
import javax.tools.JavaCompiler;
import javax.tools.ToolProvider;

/**
 * The examples of README.md are compiled and run as they stand there: each call answers what stands behind it.
 *
 * A block that begins with "static" is of methods that other blocks use; each other block is a run on objects of its own.
 */
public final class ReadmeTest {
    private static final Pattern BLOCK = Pattern.compile("(?s)```java\n(.*?)```");
    private static final Pattern CALL = Pattern.compile("^(\\S.*?);\\s+// (\\S+)(\\s.*)?$");
    private static final Pattern NUMBER = Pattern.compile("-?[0-9]+");
    private static final int LEAST_CALLS = 90;

    private static final List<String> answers = new ArrayList<>();
    private static int wrong = 0;

    /** Asked by the program that is made of the examples. */
    public static void due(String call, int got, int want) {
        answers.add(call);
        if (got == want) return;
        wrong++;
        System.out.println("README.md: " + call + " answered " + Script.word(got) + ", due is " + Script.word(want));
    }

    private static String quoted(String s) {
        return "\"" + s.replace("\\", "\\\\").replace("\"", "\\\"") + "\"";
    }

    private static String asked(String line) {
        Matcher call = CALL.matcher(line);
        if (!call.matches()) {
            if (!line.equals("HillPaths x = new HillPaths();")) throw new IllegalStateException("README.md: no answer: " + line);
            return line;
        }
        String want = NUMBER.matcher(call.group(2)).matches() ? call.group(2) : "HillPaths." + call.group(2);
        return "ReadmeTest.due(" + quoted(call.group(1)) + ", " + call.group(1) + ", " + want + ");";
    }

    private static String program(String readme) {
        StringBuilder members = new StringBuilder(), runs = new StringBuilder();
        Matcher block = BLOCK.matcher(readme);
        while (block.find()) {
            if (block.group(1).startsWith("static ")) {
                members.append(block.group(1));
                continue;
            }
            runs.append("{\n");
            for (String line : block.group(1).split("\n")) runs.append(asked(line)).append('\n');
            runs.append("}\n");
        }
        return "public final class Examples {\n" + members + "public static void all() {\n" + runs + "}\n}\n";
    }

    private static void run(String program) throws Exception {
        Path dir = Files.createTempDirectory("readme");
        Path source = dir.resolve("Examples.java");
        Files.writeString(source, program);
        JavaCompiler javac = ToolProvider.getSystemJavaCompiler();
        int rc = javac.run(null, null, null, "--release", "17", "-cp", System.getProperty("java.class.path"),
            "-d", dir.toString(), source.toString());
        if (rc != 0) throw new IllegalStateException("README.md: the examples do not compile");
        try (java.net.URLClassLoader made = new java.net.URLClassLoader(new java.net.URL[] {dir.toUri().toURL()})) {
            made.loadClass("Examples").getMethod("all").invoke(null);
        } finally {
            for (File f : dir.toFile().listFiles()) f.delete();
            Files.delete(dir);
        }
    }

    public static void main(String[] args) throws Exception {
        String readme = Files.readString(Path.of("README.md"));
        run(program(readme));
        if (answers.size() < LEAST_CALLS) {
            wrong++;
            System.out.println("README.md: only " + answers.size() + " calls were found");
        }
        System.out.println(answers.size() + " answers of examples, " + wrong + " not as due");
        if (wrong != 0) System.exit(1);
    }
}
