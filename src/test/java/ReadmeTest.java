import java.io.IOException;
import java.net.URL;
import java.net.URLClassLoader;
import java.nio.file.Files;
import java.nio.file.Path;
import java.util.Comparator;
import java.util.List;
import java.util.regex.Matcher;
import java.util.regex.Pattern;
import java.util.stream.Collectors;
import java.util.stream.Stream;
import javax.tools.ToolProvider;

/** What README.md shows is so: each call of its examples answers what stands behind it, and each test is named. */
public final class ReadmeTest {
    private static final Pattern BLOCK = Pattern.compile("(?s)```java\n(.*?)```");
    private static final Pattern CALL = Pattern.compile("^(desk\\.\\w+\\(.*\\)); +// (-?\\d+).*$");

    private static int wrong;

    private static void say(String what) {
        wrong++;
        System.out.println(what);
    }

    /** The examples as a method that answers how many of its calls were wrong. */
    private static String program(String readme) {
        StringBuilder code = new StringBuilder("public final class Shown {\npublic static int wrong() {\nint wrong = 0; long got;\n");
        Matcher block = BLOCK.matcher(readme);
        int calls = 0;
        while (block.find()) {
            for (String line : block.group(1).split("\n")) {
                Matcher call = CALL.matcher(line);
                if (!call.matches()) {
                    if (line.startsWith("desk.")) say("README.md, no answer stands behind: " + line);
                    code.append(line).append('\n');
                    continue;
                }
                calls++;
                code.append("got = ").append(call.group(1)).append("; if (got != ").append(call.group(2)).append("L) { wrong++; ");
                code.append("System.out.println(\"README.md: ").append(call.group(1).replace("\"", "'"));
                code.append(" answered \" + got + \", not ").append(call.group(2)).append("\"); }\n");
            }
        }
        if (calls < 40) say("README.md shows only " + calls + " calls");
        return code.append("return wrong;\n}\n}\n").toString();
    }

    private static void examplesAnswer(String readme) throws IOException, ReflectiveOperationException {
        Path dir = Files.createTempDirectory("readme");
        try {
            Path file = Files.writeString(dir.resolve("Shown.java"), program(readme));
            String path = System.getProperty("java.class.path");
            int failed = ToolProvider.getSystemJavaCompiler().run(null, null, null, "-cp", path, "-d", dir.toString(), file.toString());
            if (failed != 0) {
                say("the examples of README.md do not compile");
                return;
            }
            try (URLClassLoader loader = new URLClassLoader(new URL[] {dir.toUri().toURL()})) {
                wrong += (int) loader.loadClass("Shown").getMethod("wrong").invoke(null);
            }
        } finally {
            try (Stream<Path> left = Files.walk(dir)) {
                for (Path one : left.sorted(Comparator.reverseOrder()).collect(Collectors.toList())) Files.delete(one);
            }
        }
    }

    private static void namesAllTests(String readme, Path root) throws IOException {
        try (Stream<Path> files = Files.list(root.resolve("src/test/java"))) {
            List<String> names = files.map(file -> file.getFileName().toString().replace(".java", "")).sorted().collect(Collectors.toList());
            for (String name : names) if (!readme.contains("`" + name + "`")) say("README.md does not name " + name);
            Matcher named = Pattern.compile("`(\\w+Test)`").matcher(readme);
            while (named.find()) if (!names.contains(named.group(1))) say("README.md names " + named.group(1) + ", which is not there");
        }
    }

    public static void main(String[] args) throws IOException, ReflectiveOperationException {
        Path root = Path.of(args.length > 0 ? args[0] : ".");
        String readme = Files.readString(root.resolve("README.md"));
        examplesAnswer(readme);
        namesAllTests(readme, root);
        System.out.println(wrong == 0 ? "README.md shows what is so" : wrong + " lines of README.md are not so");
        if (wrong != 0) System.exit(1);
    }
}
