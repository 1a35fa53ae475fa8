import java.io.IOException;
import java.net.URL;
import java.net.URLClassLoader;
import java.nio.file.Files;
import java.nio.file.Path;
import java.util.ArrayList;
import java.util.Arrays;
import java.util.List;
import java.util.Map;
import java.util.regex.Matcher;
import java.util.regex.Pattern;
import javax.tools.JavaCompiler;
import javax.tools.ToolProvider;

/** The use of the class as README.md shows it: its programs are run, and the formats of its tables filled. */
public final class ReadmeTest {
    private static final Path README = Path.of("README.md");
    private static final Checks CHECKS = new Checks();

    public static void main(String[] args) throws Exception {
        List<String> lines = Files.readAllLines(README);
        CHECKS.due("README.md shows formats that are filled", new Tables().check(lines) > 0, true);
        CHECKS.due("README.md shows calls with answers", new Programs().check(lines) > 0, true);
        CHECKS.finish();
    }

    private static String where(int line) {
        return "README.md, line " + (line + 1) + ": ";
    }

    /** The tables that begin with the columns format and arguments, and then made or fault. */
    private static final class Tables {
        private static final Pattern CODE = Pattern.compile("`([^`]*)`");
        private static final Map<String, Integer> FAULTS = Map.of("BAD", FormatMill.BAD, "FEW", FormatMill.FEW,
            "WORD", FormatMill.WORD, "LONG", FormatMill.LONG);
        private String column = "";
        private int rows = 0;

        int check(List<String> lines) {
            for (int i = 0; i < lines.size(); i++) {
                String line = lines.get(i);
                if (!line.startsWith("|")) {
                    column = "";
                } else if (i + 1 < lines.size() && lines.get(i + 1).startsWith("| ---")) {
                    column = columnToCheck(line);
                } else if (!column.isEmpty() && !line.startsWith("| ---")) {
                    checkRow(i, line.split("\\|"));
                }
            }
            return rows;
        }

        private static String columnToCheck(String header) {
            for (String column : List.of("made", "fault")) {
                if (header.startsWith("| format | arguments | " + column + " |")) {
                    return column;
                }
            }
            return "";
        }

        private void checkRow(int line, String[] cells) {
            rows++;
            String format = codes(cells[1]).get(0);
            String answer = codes(cells[3]).get(0);
            Object[] arguments = codes(cells[2]).stream().map(Tables::argument).toArray();
            Object want = column.equals("made") ? answer : FAULTS.get(answer);
            CHECKS.due(where(line) + format + " from " + Arrays.toString(arguments),
                Checks.filled(format, arguments), want);
        }

        private static List<String> codes(String cell) {
            return CODE.matcher(cell).results().map(code -> code.group(1)).toList();
        }

        private static Object argument(String code) {
            return code.startsWith("\"") ? code.substring(1, code.length() - 1) : (Object) Long.valueOf(code);
        }
    }

    /** The blocks of Java, written into one class: each of calls in a method of its own, methods as they stand. */
    private static final class Programs {
        private static final Pattern CALL = Pattern.compile(
            "(mill\\.\\w+\\(.*\\)); *// (-?[\\w.]+)(?:: (\"[^\"]*\"|'.'))?(?:, .*)?");
        private final StringBuilder source = new StringBuilder();
        private final List<String> blocks = new ArrayList<>();
        private boolean inCalls = false;

        int check(List<String> lines) throws Exception {
            source.append("public final class ReadmeUse {\n");
            source.append("static java.util.List<Object[]> answers = new java.util.ArrayList<>();\n");
            source.append("static void answer(String call, Object got, Object want) {")
                .append("answers.add(new Object[] {call, got, want}); }\n");
            source.append("static String made(FormatMill mill) { String text = \"\";")
                .append("for (int i = 0; i < 400 && mill.madeAt(i) >= 0; i++) { text += (char) mill.madeAt(i); }")
                .append("return text; }\n");
            writeBlocks(lines);
            source.append("public static java.util.List<Object[]> run() {\n");
            blocks.forEach(block -> source.append(block).append("();\n"));
            source.append("return answers;\n}\n}\n");
            List<Object[]> answers = compileAndRun();
            answers.forEach(answer -> CHECKS.due((String) answer[0], answer[1], answer[2]));
            return answers.size();
        }

        private void writeBlocks(List<String> lines) {
            boolean inJava = false;
            for (int i = 0; i < lines.size(); i++) {
                String line = lines.get(i);
                if (line.equals("```java")) {
                    inJava = true;
                    begin(lines.get(i + 1));
                } else if (inJava && line.equals("```")) {
                    inJava = false;
                    source.append(inCalls ? "}\n" : "");
                } else if (inJava) {
                    write(i, line);
                }
            }
        }

        private void begin(String firstLine) {
            inCalls = !firstLine.startsWith("static ");
            if (inCalls) {
                blocks.add("block" + blocks.size());
                source.append("static void ").append(blocks.get(blocks.size() - 1)).append("() {\n");
            }
        }

        private void write(int line, String text) {
            if (!inCalls || !text.startsWith("mill.") || text.equals("mill.clear();")) {
                source.append(text).append('\n');
                return;
            }
            Matcher call = CALL.matcher(text);
            CHECKS.due(where(line) + text + " gives the answer", call.matches(), true);
            if (call.matches()) {
                writeCall(where(line) + call.group(1), call.group(1), call.group(2), call.group(3));
            }
        }

        private void writeCall(String name, String call, String want, String shown) {
            writeAnswer(name, call, want);
            if (shown != null && shown.startsWith("\"")) {
                writeAnswer(name + ", what is made", "made(mill)", shown);
            } else if (shown != null) {
                writeAnswer(name + ", the byte", "(char) " + call, shown);
            }
        }

        private void writeAnswer(String name, String got, String want) {
            source.append(String.format("answer(\"%s\", %s, %s);%n", name, got, want));
        }

        private List<Object[]> compileAndRun() throws Exception {
            Path place = Files.createTempDirectory("readme");
            Path program = place.resolve("ReadmeUse.java");
            try {
                Files.writeString(program, source);
                JavaCompiler compiler = ToolProvider.getSystemJavaCompiler();
                int failed = compiler.run(null, null, null, "-d", place.toString(),
                    "-cp", System.getProperty("java.class.path"), program.toString());
                CHECKS.due("the Java of README.md is compiled, exit code", failed, 0);
                return failed == 0 ? run(place) : List.of();
            } finally {
                remove(place);
            }
        }

        @SuppressWarnings("unchecked")
        private static List<Object[]> run(Path place) throws Exception {
            try (URLClassLoader loader = new URLClassLoader(new URL[] {place.toUri().toURL()})) {
                return (List<Object[]>) loader.loadClass("ReadmeUse").getMethod("run").invoke(null);
            }
        }

        private static void remove(Path place) throws IOException {
            for (String file : List.of("ReadmeUse.java", "ReadmeUse.class")) {
                Files.deleteIfExists(place.resolve(file));
            }
            Files.delete(place);
        }
    }
}
