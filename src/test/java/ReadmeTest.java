import java.lang.reflect.Method;
import java.lang.reflect.Modifier;
import java.net.URL;
import java.net.URLClassLoader;
import java.nio.charset.StandardCharsets;
import java.nio.file.Files;
import java.nio.file.Path;
import java.util.Set;
import java.util.TreeSet;
import java.util.regex.Matcher;
import java.util.regex.Pattern;
import javax.tools.JavaCompiler;
import javax.tools.ToolProvider;

/** Makes the calls that README.md shows, and compares their answers with what stands behind them. */
public final class ReadmeTest {
    private static final Pattern BLOCK = Pattern.compile("(?s)```java\n(.*?)```");
    private static final Pattern SHOWN = Pattern.compile("(x\\.(\\w+)\\(.*\\)); +// (-?\\d+|VowRope\\.[A-Z]+)(: .+)?");
    private static final String HEAD = "public final class ReadmeRun {\n"
        + "    private static int wrong = 0;\n"
        + "    private static void due(String call, int got, int want) {\n"
        + "        if (got != want) {\n"
        + "            wrong++;\n"
        + "            System.out.println(\"README.md: \" + call + \" answered \" + got + \", it says \" + want);\n"
        + "        }\n"
        + "    }\n"
        + "    public static int run() {\n";
    private static final String TAIL = "        return wrong;\n    }\n}\n";

    private static final Set<String> shown = new TreeSet<>();
    private static int wrong = 0;

    public static void main(String[] args) throws Exception {
        String text = Files.readString(readme(args), StandardCharsets.UTF_8);
        wrong += runOf(programOf(text));
        for (Method m : VowRope.class.getDeclaredMethods()) {
            if (Modifier.isPublic(m.getModifiers()) && !shown.contains(m.getName())) {
                say("no answer of " + m.getName() + " is shown");
            }
        }
        if (wrong > 0) {
            System.exit(1);
        }
    }

    private static Path readme(String[] args) {
        Path source = Path.of(args.length > 0 ? args[0] : "src/main/java/VowRope.java").toAbsolutePath();
        return source.resolve("../../../../README.md").normalize();
    }

    private static void say(String what) {
        wrong++;
        System.out.println("README.md: " + what);
    }

    /** All blocks are one run; what is set in from the left, or is no call, is taken as it stands. */
    private static String programOf(String text) {
        StringBuilder program = new StringBuilder(HEAD);
        Matcher blocks = BLOCK.matcher(text);
        while (blocks.find()) {
            for (String line : blocks.group(1).split("\n")) {
                Matcher call = SHOWN.matcher(line);
                if (call.matches()) {
                    shown.add(call.group(2));
                    program.append("due(\"").append(call.group(1)).append("\", ").append(call.group(1)).append(", ")
                        .append(call.group(3)).append(");\n");
                } else {
                    if (line.startsWith("x.")) {
                        say("without an answer: " + line);
                    }
                    program.append(line).append('\n');
                }
            }
        }
        return program.append(TAIL).toString();
    }

    private static int runOf(String program) throws Exception {
        Path classes = Files.createTempDirectory("readme");
        Path source = classes.resolve("ReadmeRun.java");
        Path compiled = classes.resolve("ReadmeRun.class");
        try {
            Files.writeString(source, program);
            JavaCompiler javac = ToolProvider.getSystemJavaCompiler();
            if (javac.run(null, null, null, "-cp", System.getProperty("java.class.path"), "-proc:none",
                "-d", classes.toString(), source.toString()) != 0) {
                return 1;
            }
            try (URLClassLoader loader = new URLClassLoader(new URL[] {classes.toUri().toURL()},
                ReadmeTest.class.getClassLoader())) {
                return (Integer) loader.loadClass("ReadmeRun").getMethod("run").invoke(null);
            }
        } finally {
            Files.deleteIfExists(compiled);
            Files.deleteIfExists(source);
            Files.deleteIfExists(classes);
        }
    }
}
