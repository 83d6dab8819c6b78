import java.io.ByteArrayOutputStream;
import java.io.IOException;
import java.io.PrintStream;
import java.net.URL;
import java.net.URLClassLoader;
import java.nio.charset.StandardCharsets;
import java.nio.file.Files;
import java.nio.file.Path;
import java.util.ArrayList;
import java.util.List;
import javax.tools.JavaCompiler;
import javax.tools.ToolProvider;

/** The program in README.md is compiled with the class and must print what stands behind its calls. */
public final class StairGangReadmeTest {
    private static final String PRINTS = "System.out.println(";
    private static final String BEHIND = "// ";

    private final List<String> calls = new ArrayList<>();
    private final List<String> due = new ArrayList<>();
    private int wrong;

    public static void main(String[] args) throws Exception {
        StairGangReadmeTest test = new StairGangReadmeTest();
        test.run(Path.of(args.length > 0 ? args[0] : "README.md"));
        if (test.wrong > 0) {
            System.out.println(test.wrong + " rows of README.md are wrong");
            System.exit(1);
        }
        System.out.println("the program in README.md prints what it says");
    }

    private void run(Path readme) throws Exception {
        List<String> program = programOf(Files.readAllLines(readme));
        for (String line : program) {
            findDue(line);
        }
        List<String> printed = runProgram(program);
        if (calls.isEmpty() || printed.size() != calls.size()) {
            wrong++;
            System.out.println("README.md tells " + calls.size() + " answers, its program prints " + printed.size());
        }
        for (int i = 0; i < Math.min(printed.size(), calls.size()); i++) {
            if (!printed.get(i).equals(due.get(i))) {
                wrong++;
                System.out.println(calls.get(i) + " answered " + printed.get(i) + ", README.md says " + due.get(i));
            }
        }
    }

    private static List<String> programOf(List<String> readme) {
        int from = readme.indexOf("```java");
        List<String> program = new ArrayList<>();
        for (int i = from + 1; from >= 0 && i < readme.size() && !readme.get(i).equals("```"); i++) {
            program.add(readme.get(i));
        }
        return program;
    }

    private void findDue(String line) {
        int call = line.indexOf(PRINTS);
        int answer = line.indexOf(BEHIND);
        if (call >= 0 && answer > call) {
            calls.add(line.substring(call + PRINTS.length(), line.indexOf(");", call)));
            due.add(line.substring(answer + BEHIND.length()).trim());
        }
    }

    private List<String> runProgram(List<String> program) throws Exception {
        Path dir = Files.createTempDirectory("readme");
        Path file = dir.resolve("Example.java");
        try {
            Files.write(file, program);
            return compiles(file, dir) ? printedBy(dir) : List.of();
        } finally {
            Files.deleteIfExists(dir.resolve("Example.class"));
            Files.deleteIfExists(file);
            Files.deleteIfExists(dir);
        }
    }

    private boolean compiles(Path file, Path dir) {
        JavaCompiler compiler = ToolProvider.getSystemJavaCompiler();
        String classes = System.getProperty("java.class.path");
        int code = compiler.run(null, null, null, "-Xlint:all", "-Werror", "-cp", classes, "-d", dir.toString(),
                file.toString());
        if (code != 0) {
            wrong++;
            System.out.println("the program in README.md does not compile");
        }
        return code == 0;
    }

    private static List<String> printedBy(Path dir) throws ReflectiveOperationException, IOException {
        PrintStream out = System.out;
        ByteArrayOutputStream bytes = new ByteArrayOutputStream();
        try (URLClassLoader loader = new URLClassLoader(new URL[] {dir.toUri().toURL()})) {
            System.setOut(new PrintStream(bytes, true, StandardCharsets.UTF_8));
            loader.loadClass("Example").getMethod("main", String[].class).invoke(null, (Object) new String[0]);
        } finally {
            System.setOut(out);
        }
        return bytes.toString(StandardCharsets.UTF_8).lines().toList();
    }
}
