import java.io.File;
import java.lang.reflect.Modifier;
import java.net.URL;
import java.net.URLClassLoader;
import java.nio.file.Files;
import java.nio.file.Path;
import java.util.ArrayList;
import java.util.List;
import java.util.regex.Matcher;
import java.util.regex.Pattern;
import javax.tools.ToolProvider;

/** Holds README.md to what is so: its example, the calls and the tests that it names. Run from the project's folder. */
public final class ReadmeTest extends Checks {
    private static final Pattern BLOCK = Pattern.compile("```java\n(.*?)```", Pattern.DOTALL);
    private static final Pattern ASKED = Pattern.compile("(x\\.\\w+\\(.*\\)); +// (-?\\d+).*");

    public static void main(String[] args) throws Exception {
        watch();
        String readme = Files.readString(Path.of("README.md"));
        part("example");
        runExample(readme);
        part("calls");
        callsNamed(readme);
        part("tests");
        testsNamed(readme);
        finish("the readme is so");
    }

    private static void runExample(String readme) throws Exception {
        List<String> blocks = new ArrayList<>();
        Matcher m = BLOCK.matcher(readme);
        while (m.find()) {
            blocks.add(m.group(1));
        }
        due("blocks", blocks.size(), 2);
        if (blocks.size() != 2) {
            return;
        }
        List<String> calls = new ArrayList<>();
        List<Long> wanted = new ArrayList<>();
        StringBuilder b = new StringBuilder("public final class ReadmeExample {\n").append(blocks.get(0));
        b.append("public static java.util.List<Long> answers() {\n");
        b.append("java.util.List<Long> got = new java.util.ArrayList<>();\n");
        for (String line : blocks.get(1).split("\n")) {
            Matcher a = ASKED.matcher(line);
            if (a.matches()) {
                calls.add(a.group(1));
                wanted.add(Long.valueOf(a.group(2)));
                b.append("got.add((long) ").append(a.group(1)).append(");\n");
            } else {
                boolean begins = line.matches(".* = (new StreetDreams|put)\\(.*");
                due("without an answer an object or a text: " + line, begins, true);
                b.append(line).append('\n');
            }
        }
        List<Long> got = answersOf(b.append("return got;\n}\n}\n").toString());
        due("answers", got.size(), wanted.size());
        due("some answers are told", got.size() >= 10, true);
        for (int i = 0; i < got.size() && i < wanted.size(); i++) {
            due(calls.get(i), got.get(i), wanted.get(i));
        }
    }

    /** Compiles the example against the class, and runs it. */
    @SuppressWarnings("unchecked")
    private static List<Long> answersOf(String source) throws Exception {
        Path folder = Files.createTempDirectory("readme");
        Path file = folder.resolve("ReadmeExample.java");
        Files.writeString(file, source);
        int failed = ToolProvider.getSystemJavaCompiler().run(null, null, null, "-implicit:none", "-cp",
            System.getProperty("java.class.path"), "-d", folder.toString(), file.toString());
        due("compiled", failed, 0);
        List<Long> got = List.of();
        if (failed == 0) {
            try (URLClassLoader loader = new URLClassLoader(new URL[] {folder.toUri().toURL()})) {
                got = (List<Long>) loader.loadClass("ReadmeExample").getMethod("answers").invoke(null);
            }
        }
        for (File f : folder.toFile().listFiles()) {
            f.delete();
        }
        Files.delete(folder);
        return got;
    }

    private static void callsNamed(String readme) {
        for (var m : StreetDreams.class.getDeclaredMethods()) {
            if (Modifier.isPublic(m.getModifiers())) {
                due(m.getName() + " in the table", Pattern.compile("(?m)^\\| .*`" + m.getName() + "`.* \\|")
                    .matcher(readme).find(), true);
            }
        }
        Matcher row = Pattern.compile("(?m)^\\| (`[^|]*) \\|").matcher(readme);
        int named = 0;
        while (row.find()) {
            named += row.group(1).split(" ").length;
        }
        due("calls in the table", named, 50);
    }

    private static void testsNamed(String readme) throws Exception {
        try (var files = Files.list(Path.of("src/test/java"))) {
            for (Path file : files.toList()) {
                String name = file.getFileName().toString().replace(".java", "");
                due(name + " is named", readme.contains("`" + name + "`"), true);
            }
        }
        Matcher named = Pattern.compile("`(\\w+(Test|Edges))`").matcher(readme);
        while (named.find()) {
            due(named.group(1) + " is there", Files.exists(Path.of("src/test/java", named.group(1) + ".java")), true);
        }
    }
}
