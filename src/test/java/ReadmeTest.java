import java.io.File;
import java.net.URL;
import java.net.URLClassLoader;
import java.nio.file.Files;
import java.nio.file.Path;
import java.util.regex.Matcher;
import java.util.regex.Pattern;
import java.util.stream.Stream;
import javax.tools.ToolProvider;

/** README.md's example is compiled and run: each call answers what is told behind it. */
public final class ReadmeTest {
    private static final Check CHECK = new Check("ReadmeTest");
    private static final Pattern TOLD = Pattern.compile("( +)(?:int (\\w+) = )?(\\w.*\\));\\s+// (-?\\d+)(:.*)?");
    private static final String DUE = """
                public static int asked, wrong;

                static void due(String call, long got, long want) {
                    asked++;
                    if (got == want) return;
                    wrong++;
                    System.out.println("README.md: " + call + " answered " + got + ", told is " + want);
                }
            }
            """;

    public static void main(String[] args) throws Exception {
        String readme = Files.readString(Path.of("README.md"));
        theExample(readme);
        whatItTells(readme);
        CHECK.close();
    }

    private static void theExample(String readme) throws Exception {
        int from = readme.indexOf("```java\n") + 8;
        String[] lines = readme.substring(from, readme.indexOf("```", from)).stripTrailing().split("\n");
        StringBuilder program = new StringBuilder();
        int told = 0;
        for (int i = 0; i + 1 < lines.length; i++) {
            Matcher line = TOLD.matcher(lines[i]);
            program.append(lines[i]).append('\n');
            if (!line.matches()) continue;
            told++;
            if (line.group(2) == null) program.setLength(program.length() - lines[i].length() - 1);
            String got = line.group(2) == null ? line.group(3) : line.group(2);
            String call = line.group(3).replace("\"", "\\\"");
            program.append("due(\"" + call + "\", " + got + ", " + line.group(4) + "L);\n");
        }
        Class<?> example = compiled(program.append(DUE).toString());
        example.getMethod("main", String[].class).invoke(null, (Object) new String[0]);
        CHECK.due("answers told in README.md", example.getField("asked").getInt(null), told);
        CHECK.due("wrong answers told in README.md", example.getField("wrong").getInt(null), 0);
        CHECK.isTrue("the example tells of a few calls", told > 10);
    }

    private static Class<?> compiled(String program) throws Exception {
        Path folder = Files.createTempDirectory("readme");
        Path file = folder.resolve("Example.java");
        try {
            Files.writeString(file, program);
            int fault = ToolProvider.getSystemJavaCompiler().run(null, null, null, "-cp",
                    System.getProperty("java.class.path"), "-d", folder.toString(), file.toString());
            CHECK.due("README.md's example compiles", fault, 0);
            try (URLClassLoader loader = new URLClassLoader(new URL[] {folder.toUri().toURL()})) {
                return loader.loadClass("Example");
            }
        } finally {
            try (Stream<Path> files = Files.list(folder)) {
                files.map(Path::toFile).forEach(File::delete);
            }
            Files.delete(folder);
        }
    }

    /** What the host refuses, the limits and every KEY, VALUE and FACT stand in it, and how the tests are run. */
    private static void whatItTells(String readme) {
        for (String word : new String[] {"new OneIsTwo()", "OneIsTwo.BAD` | -1", "OneIsTwo.FULL` | -2",
                "OneIsTwo.NONE` | -3", "OneIsTwo.STATE` | -4", "| -11", "| -12", "| -13", "| -14", "| -15",
                "changes nothing", "512", "200", "feed(eight, n)", "law()", ".ci/run", "../shared/tests"}) {
            CHECK.isTrue("README.md tells of " + word, readme.contains(word));
        }
        for (String key : Model.KEYS) {
            CHECK.isTrue("README.md tells of " + key, readme.contains("`" + key + "`"));
            for (String value : Model.VALUES.get(key)) {
                CHECK.isTrue("README.md tells of " + value, readme.contains(value));
            }
        }
        for (String fact : Model.FACTS) CHECK.isTrue("README.md tells of " + fact, readme.contains("`" + fact + "`"));
    }
}
