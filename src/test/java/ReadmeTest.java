import java.io.File;
import java.io.StringWriter;
import java.lang.reflect.Method;
import java.lang.reflect.Modifier;
import java.net.URL;
import java.net.URLClassLoader;
import java.nio.file.Files;
import java.nio.file.Path;
import java.util.ArrayList;
import java.util.List;
import java.util.regex.Matcher;
import java.util.regex.Pattern;
import javax.tools.JavaCompiler;
import javax.tools.ToolProvider;

/**
 * README.md is there and not empty, names each call and each test, and what it shows of the class's use
 * answers as it says: its examples are compiled and run, and the answers behind the calls are compared.
 */
public final class ReadmeTest {
    private static final Path README = Path.of("README.md");
    // A call, alone or for a new int, and behind it a comment.
    private static final Pattern CALL = Pattern.compile("(?:int (\\w+) = )?(board\\.\\w+\\(.*\\));(?:\\s*// (.*))?");
    private static final Pattern ANSWER = Pattern.compile("(-?\\d+|WatchdogBoard\\.[A-Z_]+)(?::.*)?");

    private static int wrong = 0;
    private static int answers = 0;

    private static void fault(String text) {
        wrong++;
        System.out.println("README.md: " + text);
    }

    public static void main(String[] arguments) throws Exception {
        String text = Files.isRegularFile(README) ? Files.readString(README) : "";
        if (text.isBlank()) {
            fault("is not there, or is empty");
        } else {
            names(text);
            examples(text);
        }
        System.out.println(wrong == 0 ? "the examples of README.md answer as it says" : wrong + " faults in README.md");
        if (wrong != 0) {
            System.exit(1);
        }
    }

    private static void names(String text) throws Exception {
        for (Method method : WatchdogBoard.class.getDeclaredMethods()) {
            if (Modifier.isPublic(method.getModifiers()) && !text.contains("`" + method.getName() + "`")) {
                fault("does not name the call " + method.getName());
            }
        }
        try (var tests = Files.newDirectoryStream(Path.of("src/test/java"), "*.java")) {
            for (Path test : tests) {
                if (!text.contains("`" + test.getFileName() + "`")) {
                    fault("does not name the test " + test.getFileName());
                }
            }
        }
        if (!text.contains("\n    .ci/run\n") || !Files.isExecutable(Path.of(".ci/run"))) {
            fault("does not say how the tests are run");
        }
    }

    // ---- the examples

    private static void examples(String text) throws Exception {
        List<String> blocks = blocks(text);
        if (blocks.isEmpty()) {
            fault("shows no use of the class");
            return;
        }
        StringBuilder source = new StringBuilder("public final class ReadmeExample {\n")
                .append("static int wrong = 0;\n")
                .append("static void due(String line, int got, int want) { if (got != want) { wrong++; ")
                .append("System.out.println(\"README.md: '\" + line + \"' answered \" + got); } }\n")
                .append("public static int run() {\n");
        for (String block : blocks) {
            source.append("{\n");
            for (String line : block.split("\n")) {
                source.append(statement(line.strip())).append('\n');
            }
            source.append("}\n");
        }
        source.append("return wrong;\n}\n}\n");
        if (answers == 0) {
            fault("shows no answer");
        }
        run(source.toString());
    }

    private static List<String> blocks(String text) {
        List<String> blocks = new ArrayList<>();
        Matcher matcher = Pattern.compile("(?s)\n```java\n(.*?)\n```\n").matcher(text);
        while (matcher.find()) {
            blocks.add(matcher.group(1));
        }
        return blocks;
    }

    // The line as it stands, and if it is a call, what compares its answer.
    private static String statement(String line) {
        Matcher call = CALL.matcher(line);
        if (!call.matches()) {
            return line;
        }
        Matcher answer = ANSWER.matcher(call.group(3) == null ? "" : call.group(3));
        if (!answer.matches()) {
            fault("no answer stands behind " + line);
            return line;
        }
        answers++;
        String begin = "due(\"" + line.replace("\\", "\\\\").replace("\"", "\\\"") + "\", ";
        String end = ", " + answer.group(1) + ");";
        if (call.group(1) == null) {
            return begin + call.group(2) + end;
        }
        return "int " + call.group(1) + " = " + call.group(2) + "; " + begin + call.group(1) + end;
    }

    private static void run(String source) throws Exception {
        Path room = Files.createTempDirectory("readme");
        try {
            Path file = Files.writeString(room.resolve("ReadmeExample.java"), source);
            StringWriter said = new StringWriter();
            JavaCompiler compiler = ToolProvider.getSystemJavaCompiler();
            List<String> options = List.of("-d", room.toString(), "-cp", System.getProperty("java.class.path"));
            try (var files = compiler.getStandardFileManager(null, null, null)) {
                if (!compiler.getTask(said, files, null, options, null, files.getJavaFileObjects(file)).call()) {
                    fault("its examples do not compile\n" + said);
                    return;
                }
            }
            try (URLClassLoader loader = new URLClassLoader(new URL[] {room.toUri().toURL()})) {
                Method examples = loader.loadClass("ReadmeExample").getMethod("run");
                wrong += (Integer) examples.invoke(null);
            }
        } finally {
            for (File left : room.toFile().listFiles()) {
                left.delete();
            }
            room.toFile().delete();
        }
    }
}
