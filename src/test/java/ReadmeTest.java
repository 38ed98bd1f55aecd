import java.io.IOException;
import java.net.URL;
import java.net.URLClassLoader;
import java.nio.file.Files;
import java.nio.file.Path;
import java.util.List;
import java.util.regex.Matcher;
import java.util.regex.Pattern;
import java.util.stream.Stream;
import javax.tools.ToolProvider;

/** Runs the lines of README.md's examples, and looks whether the page names all that it should. */
public final class ReadmeTest {
    private static final Check CHECK = new Check("readme");
    private static final Pattern ANSWERED = Pattern.compile("(.+;)\\s+// (-?\\d+)\\b.*");
    private static final Pattern NAMED = Pattern.compile("int (\\w+) = .+;");

    private ReadmeTest() { }

    /** The examples' own code asks here. */
    public static void due(String call, long got, long want) {
        CHECK.due(call, got, want);
    }

    public static void main(String[] args) throws Exception {
        List<String> page = Files.readAllLines(Path.of("README.md"));
        examples(page);
        names(String.join("\n", page));
        CHECK.end();
    }

    private static void examples(List<String> page) throws Exception {
        Path folder = Files.createTempDirectory("readme");
        try {
            run(page, folder);
        } finally {
            for (String left : List.of("ReadmeLines.class", "ReadmeLines.java", "")) {
                Files.deleteIfExists(folder.resolve(left));
            }
        }
    }

    private static void run(List<String> page, Path folder) throws Exception {
        Path source = folder.resolve("ReadmeLines.java");
        Files.writeString(source, program(page));
        int code = ToolProvider.getSystemJavaCompiler().run(null, null, null,
            "-proc:none", "-cp", System.getProperty("java.class.path"), "-d", folder.toString(), source.toString());
        CHECK.due("compiling the examples", code, 0);
        if (code == 0) {
            try (URLClassLoader loader = new URLClassLoader(new URL[] {folder.toUri().toURL()}, ReadmeTest.class.getClassLoader())) {
                loader.loadClass("ReadmeLines").getMethod("main").invoke(null);
            }
        }
    }

    private static String program(List<String> page) {
        StringBuilder text = new StringBuilder("public final class ReadmeLines {\n    public static void main() {\n");
        boolean inside = false;
        int answers = 0;
        for (String line : page) {
            if (line.startsWith("```")) {
                text.append(line.equals("```java") ? "{\n" : inside ? "}\n" : "");
                inside = line.equals("```java");
            } else if (inside) {
                Matcher answered = ANSWERED.matcher(line);
                boolean asks = answered.matches();
                answers += asks ? 1 : 0;
                text.append(asks ? asked(answered.group(1), answered.group(2)) : line).append('\n');
            }
        }
        CHECK.holds("the examples have answers: " + answers, answers >= 30);
        return text.append("    }\n}\n").toString();
    }

    private static String asked(String call, String want) {
        Matcher named = NAMED.matcher(call);
        String told = call.replace("\"", "\\\"");
        if (named.matches()) {
            return call + " ReadmeTest.due(\"" + told + "\", " + named.group(1) + ", " + want + ");";
        }
        return "ReadmeTest.due(\"" + told + "\", " + call.substring(0, call.length() - 1) + ", " + want + ");";
    }

    private static void names(String page) throws IOException {
        Stream.of(NeverInLine.class.getMethods()).filter(m -> m.getDeclaringClass() == NeverInLine.class)
            .forEach(m -> CHECK.holds("the page names the call " + m.getName(), page.contains("`" + m.getName() + "`")));
        try (Stream<Path> tests = Files.list(Path.of("src/test/java"))) {
            tests.map(file -> file.getFileName().toString().replace(".java", ""))
                .forEach(name -> CHECK.holds("the page names " + name, page.contains("`" + name + "`")));
        }
        Stream.of(NeverInLine.class.getDeclaredClasses())
            .forEach(type -> CHECK.holds("the page names the part " + type.getSimpleName(), page.contains("`" + type.getSimpleName() + "`")));
    }
}
