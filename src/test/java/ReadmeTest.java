import java.io.ByteArrayOutputStream;
import java.io.IOException;
import java.io.PrintStream;
import java.net.URL;
import java.net.URLClassLoader;
import java.nio.file.Files;
import java.nio.file.Path;
import java.util.ArrayList;
import java.util.List;
import java.util.TreeSet;
import java.util.regex.Matcher;
import java.util.regex.Pattern;
import java.util.stream.Stream;
import javax.tools.JavaCompiler;
import javax.tools.ToolProvider;

/** What README.md shows is so when it is tried: its program's answers, and the tests and classes that it names. */
final class ReadmeTest {
    private static final Pattern PROGRAM = Pattern.compile("(?s)```java\n(.*?)```");
    private static final Pattern SHOWN = Pattern.compile("System\\.out\\.println\\((.*)\\); // ([^:\n]+)");
    private static final Pattern PRINTS = Pattern.compile("System\\.out\\.println");

    public static void main(String[] args) throws Exception {
        String readme = Files.readString(Path.of("README.md"));
        program(readme);
        Due.same("tests named", named(readme, "`(\\w+Test)` \\|").toString(), tests().toString());
        Due.same("classes named", named(readme.substring(readme.indexOf("## How it is built"),
                readme.indexOf("## How to run")), "`([A-Z]\\w+)`").toString(), classes().toString());
        Due.due("tells how the tests are run", readme.contains("\n    .ci/run\n"), true);
        Due.close("ReadmeTest");
    }

    private static void program(String readme) throws Exception {
        Matcher block = PROGRAM.matcher(readme);
        Due.due("a program is shown", block.find(), true);
        String program = block.group(1);
        List<String> calls = new ArrayList<>();
        StringBuilder wanted = new StringBuilder();
        Matcher shown = SHOWN.matcher(program);
        while (shown.find()) {
            calls.add(shown.group(1));
            wanted.append(shown.group(2).trim()).append('\n');
        }
        Due.due("each answer is shown", calls.size(), PRINTS.matcher(program).results().count());
        for (String call : new String[] {"new RivalWeds()", "x.feed(", "x.end(", "x.town()", "x.law()", "x.fault()"}) {
            Due.due("shows " + call, program.contains(call), true);
        }
        Due.same("answers of " + calls, printed(program), wanted.toString());
    }

    private static String printed(String program) throws Exception {
        Path folder = Files.createTempDirectory("readme");
        Path source = folder.resolve("Example.java");
        Files.writeString(source, program);
        JavaCompiler compiler = ToolProvider.getSystemJavaCompiler();
        int failed = compiler.run(null, null, null, "-Xlint:all", "-Werror", "-cp", System.getProperty("java.class.path"), "-d",
                folder.toString(), source.toString());
        Due.due("the program is compiled", failed, 0);
        String text = failed == 0 ? run(folder) : "";
        try (Stream<Path> files = Files.list(folder)) {
            for (Path file : files.toList()) {
                Files.delete(file);
            }
        }
        Files.delete(folder);
        return text;
    }

    private static String run(Path folder) throws Exception {
        PrintStream own = System.out;
        ByteArrayOutputStream bytes = new ByteArrayOutputStream();
        try (URLClassLoader loader = new URLClassLoader(new URL[] {folder.toUri().toURL()},
                ReadmeTest.class.getClassLoader())) {
            System.setOut(new PrintStream(bytes, true));
            loader.loadClass("Example").getMethod("main", String[].class).invoke(null, (Object) new String[0]);
        } finally {
            System.setOut(own);
        }
        return bytes.toString().replace(System.lineSeparator(), "\n");
    }

    private static TreeSet<String> named(String text, String pattern) {
        TreeSet<String> names = new TreeSet<>();
        Matcher name = Pattern.compile(pattern).matcher(text);
        while (name.find()) {
            names.add(name.group(1));
        }
        return names;
    }

    private static TreeSet<String> tests() throws IOException {
        TreeSet<String> names = new TreeSet<>();
        try (Stream<Path> files = Files.list(Path.of("src/test/java"))) {
            for (Path file : files.toList()) {
                String name = file.getFileName().toString();
                if (name.endsWith("Test.java")) {
                    names.add(name.substring(0, name.length() - 5));
                }
            }
        }
        return names;
    }

    private static TreeSet<String> classes() {
        TreeSet<String> names = new TreeSet<>();
        for (Class<?> one : RivalWeds.class.getDeclaredClasses()) {
            names.add(one.getSimpleName());
        }
        return names;
    }
}
