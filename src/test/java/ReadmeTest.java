import java.nio.charset.StandardCharsets;
import java.nio.file.Files;
import java.nio.file.Path;
import java.util.ArrayList;
import java.util.List;
import java.util.regex.Matcher;
import java.util.regex.Pattern;
import javax.tools.JavaCompiler;
import javax.tools.ToolProvider;

/** The examples of README.md, each call with the answer that stands behind it; run from the project's root. */
public final class ReadmeTest {
    /** A call with the answer that is due: {@code [int name =] x.call(..); // 7[: why]}. */
    private static final Pattern CALL =
        Pattern.compile("(int \\w+ = )?(x\\.\\w+\\(.*\\)); +// (-?\\d+|NONE|BAD|FULL)(:.*)?");
    private static final String START = "BitSolver x = new BitSolver();";
    private static final String CLASS = "ReadmeRun";

    public static void main(String[] args) throws Exception {
        List<String> lines = exampleLines(Files.readAllLines(Path.of("README.md"), StandardCharsets.UTF_8));
        int calls = lines.size() - 1;
        boolean whole = calls >= 30;
        if (!whole) {
            System.out.println("README.md has " + calls + " calls in its examples, due are 30 and more");
        }
        int wrong = run(program(lines));
        System.out.println(wrong == 0 && whole ? calls + " calls of README.md: all answers are as due" : wrong + " faults");
        if (wrong != 0 || !whole) {
            System.exit(1);
        }
    }

    private static List<String> exampleLines(List<String> text) {
        List<String> lines = new ArrayList<>();
        boolean inside = false;
        for (String line : text) {
            if (line.startsWith("```")) {
                inside = line.equals("```java");
            } else if (inside && !line.isBlank()) {
                lines.add(line);
            }
        }
        return lines;
    }

    private static String program(List<String> lines) {
        StringBuilder text = new StringBuilder("public final class " + CLASS + " {\n"
            + "  private static int wrong = 0;\n"
            + "  private static int due(String call, int got, int want) {\n"
            + "    if (got != want) { wrong++; System.out.println(call + \" answered \" + got + \", README.md says \" + want); }\n"
            + "    return got;\n"
            + "  }\n"
            + "  public static int faults() {\n");
        for (String line : lines) {
            text.append("    ").append(line.equals(START) ? line : statement(line)).append('\n');
        }
        return text.append("    return wrong;\n  }\n}\n").toString();
    }

    private static String statement(String line) {
        Matcher m = CALL.matcher(line);
        if (!m.matches()) {
            throw new IllegalStateException("an example without its answer: " + line);
        }
        String name = m.group(1) == null ? "" : m.group(1);
        String want = Character.isLetter(m.group(3).charAt(0)) ? "BitSolver." + m.group(3) : m.group(3);
        return name + "due(\"" + m.group(2) + "\", " + m.group(2) + ", " + want + ");";
    }

    /** Compiled beside this test's own classes, where the class under test is found, too. */
    private static int run(String program) throws Exception {
        Path classes = Path.of(ReadmeTest.class.getProtectionDomain().getCodeSource().getLocation().toURI());
        Path source = classes.resolve(CLASS + ".java");
        Files.writeString(source, program, StandardCharsets.UTF_8);
        JavaCompiler compiler = ToolProvider.getSystemJavaCompiler();
        int compiled = compiler.run(null, null, null, "-encoding", "UTF-8", "-cp", classes.toString(),
            "-d", classes.toString(), source.toString());
        if (compiled != 0) {
            throw new IllegalStateException("the examples of README.md do not compile");
        }
        return (Integer) Class.forName(CLASS).getMethod("faults").invoke(null);
    }
}
