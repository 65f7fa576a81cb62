import java.io.IOException;
import java.net.URL;
import java.net.URLClassLoader;
import java.nio.file.Files;
import java.nio.file.Path;
import java.util.ArrayList;
import java.util.List;
import java.util.regex.Matcher;
import java.util.regex.Pattern;
import javax.tools.ToolProvider;

/** The Java that README.md shows is compiled and run, and each call compared with the answer told behind it. */
public final class ReadmeTest {
    private static final Pattern BLOCK = Pattern.compile("```java\n(.*?)```", Pattern.DOTALL);
    private static final Pattern ANSWERED = Pattern.compile("\\s*(keep\\..*\\));\\s*// (-?\\d+|true|false)\\b.*");
    private static final Pattern THROWN = Pattern.compile("\\s*(keep\\..*\\));\\s*// throws (\\w+)");

    private ReadmeTest() {
    }

    public static void main(String[] args) throws Exception {
        StringBuilder members = new StringBuilder();
        StringBuilder calls = new StringBuilder();
        Matcher blocks = BLOCK.matcher(Files.readString(Path.of("README.md")));
        while (blocks.find()) {
            if (blocks.group(1).startsWith("static ")) {
                members.append(blocks.group(1));
            } else {
                blocks.group(1).lines().forEach(line -> calls.append(checked(line)).append('\n'));
            }
        }
        Check.yes("README.md shows calls", calls.length() > 0);
        run("public final class Shown {\n" + members + "public static void main(String[] args) {\n" + calls + "}\n}\n");
        eachExceptionIsTold();
        Check.end("ReadmeTest");
    }

    private static String checked(String line) {
        Matcher answered = ANSWERED.matcher(line);
        if (answered.matches()) {
            String call = answered.group(1);
            return "ReadmeTest.answered(\"" + call + "\", \"" + answered.group(2) + "\", \"\" + " + call + ");";
        }
        Matcher thrown = THROWN.matcher(line);
        if (thrown.matches()) {
            String call = thrown.group(1);
            return "ReadmeTest.thrown(\"" + call + "\", \"" + thrown.group(2) + "\", () -> " + call + ");";
        }
        Check.no("README.md tells an answer in a form that is looked at: " + line, line.contains("//"));
        return line;
    }

    public static void answered(String call, String told, String got) {
        Check.yes(call + " answered " + got + ", README.md tells " + told, told.equals(got));
    }

    public static void thrown(String call, String told, Runnable run) {
        String got = "nothing";
        try {
            run.run();
        } catch (RuntimeException e) {
            got = e.getClass().getSimpleName();
        }
        Check.yes(call + " threw " + got + ", README.md tells " + told, told.equals(got));
    }

    private static void run(String source) throws Exception {
        Path out = Files.createTempDirectory("readme");
        try {
            Path file = out.resolve("Shown.java");
            Files.writeString(file, source);
            int refused = ToolProvider.getSystemJavaCompiler().run(null, null, null, "-proc:none", "-classpath",
                    System.getProperty("java.class.path"), "-d", out.toString(), file.toString());
            Check.due("README.md compiles, with faults", 0, refused);
            try (URLClassLoader loader = new URLClassLoader(new URL[] {out.toUri().toURL()})) {
                loader.loadClass("Shown").getMethod("main", String[].class).invoke(null, (Object) new String[0]);
            }
        } finally {
            emptied(out);
        }
    }

    private static void emptied(Path out) throws IOException {
        List<Path> files = new ArrayList<>();
        try (var all = Files.walk(out)) {
            all.forEach(file -> files.add(0, file));
        }
        for (Path file : files) {
            Files.delete(file);
        }
    }

    /** The rows of README.md about exceptions name just the calls whose line in the face names them. */
    private static void eachExceptionIsTold() throws IOException {
        String readme = Files.readString(Path.of("README.md"));
        for (var method : SaturdayKeep.class.getDeclaredMethods()) {
            for (Class<?> exception : method.getExceptionTypes()) {
                String name = exception.getSimpleName();
                String row = readme.lines().filter(line -> line.startsWith("| `" + name)).findFirst().orElse("");
                Check.yes("README.md tells that " + method.getName() + " may throw " + name,
                        row.contains("`" + method.getName() + "`") || row.contains("all that take one"));
            }
        }
    }
}
