import java.io.IOException;
import java.lang.reflect.Method;
import java.lang.reflect.Modifier;
import java.net.URL;
import java.net.URLClassLoader;
import java.nio.file.Files;
import java.nio.file.Path;
import java.util.Comparator;
import java.util.List;
import java.util.concurrent.Callable;
import java.util.function.BiConsumer;
import java.util.regex.Matcher;
import java.util.regex.Pattern;
import java.util.stream.Collectors;
import java.util.stream.Stream;
import javax.tools.ToolProvider;

/** What README.md says holds: its examples compile, their calls answer as they tell, and each call of the face is named. */
final class ReadmeTest {
    private static final Check CHECK = new Check();
    private static final Pattern BLOCK = Pattern.compile("(?s)```java\n(.*?)```");
    /** A call, and the answer that is told behind it. */
    private static final Pattern TOLD = Pattern.compile("([xy]\\.\\w+\\(.*\\)); *// (-?\\d+|NONE|true|false|throws \\w+): .+");
    private static final Pattern SILENT = Pattern.compile("[xy]\\.(image|forget)\\(\\);");

    public static void main(String[] args) throws IOException, ReflectiveOperationException {
        String readme = Files.readString(Path.of("README.md"));
        eachCallIsNamed(readme);
        howToRunTests(readme);
        runExamples(readme);
        CHECK.end();
    }

    private static void eachCallIsNamed(String readme) {
        for (Method m : TwinLamps.class.getDeclaredMethods()) {
            if (Modifier.isPublic(m.getModifiers())) {
                Matcher named = Pattern.compile("`" + m.getName() + "\\(([^)`]*)\\)`").matcher(readme);
                boolean found = named.find();
                CHECK.due(m.getName() + " is named", found, true);
                String parameters = found ? named.group(1) : "";
                CHECK.due("parameters told of " + m.getName(), parameters.isEmpty() ? 0 : parameters.split(", ").length,
                        m.getParameterCount());
            }
        }
    }

    private static void howToRunTests(String readme) {
        CHECK.due("the script is told", readme.contains("```sh\n.ci/run\n```"), true);
        CHECK.due("it can be run", Files.isExecutable(Path.of(".ci/run")), true);
        Matcher files = Pattern.compile("[`/ ]((?:\\.\\./|src/)[\\w./]*\\w)").matcher(readme);
        int many = 0;
        while (files.find()) {
            many++;
            CHECK.due(files.group(1) + " is there", Files.exists(Path.of(files.group(1))), true);
        }
        CHECK.due("files are named", many > 0, true);
        Matcher tests = Pattern.compile("\\b(\\w+Test)\\b").matcher(readme.replace("*EdgesTest", ""));
        while (tests.find()) {
            CHECK.due(tests.group(1) + " is there", Files.exists(Path.of("src/test/java/" + tests.group(1) + ".java")), true);
        }
    }

    private static void runExamples(String readme) throws IOException, ReflectiveOperationException {
        Path folder = Files.createTempDirectory("readme");
        try {
            Path source = folder.resolve("ReadmeExample.java");
            Files.writeString(source, asClass(readme));
            String path = System.getProperty("java.class.path");
            int refused = ToolProvider.getSystemJavaCompiler().run(null, null, null, "-cp", path, "-d", folder.toString(),
                    source.toString());
            CHECK.due("the examples compile (0)", refused, 0);
            if (refused == 0) {
                run(folder);
            }
        } finally {
            delete(folder);
        }
    }

    private static void run(Path folder) throws IOException, ReflectiveOperationException {
        URL[] here = {folder.toUri().toURL()};
        BiConsumer<String, Callable<Object>> asker = ReadmeTest::ask;
        try (URLClassLoader loader = new URLClassLoader(here, ReadmeTest.class.getClassLoader())) {
            Class.forName("ReadmeExample", true, loader).getMethod("examples", BiConsumer.class).invoke(null, asker);
        }
    }

    /** Makes a call of an example, and looks for the answer that its line tells. */
    private static void ask(String line, Callable<Object> call) {
        String got;
        try {
            got = String.valueOf(call.call());
        } catch (Exception e) {
            got = "throws " + e.getClass().getSimpleName();
        }
        String told = line.replaceFirst(".*// ", "").replaceFirst(": .*", "");
        CHECK.due(got + " for " + line, got.equals(told.equals("NONE") ? "-1" : told), true);
    }

    /** The blocks of Java as a class: methods as they stand, statements that make a call as questions. */
    private static String asClass(String readme) {
        StringBuilder methods = new StringBuilder();
        StringBuilder statements = new StringBuilder();
        Matcher blocks = BLOCK.matcher(readme);
        while (blocks.find()) {
            if (blocks.group(1).startsWith("static ")) {
                methods.append(blocks.group(1));
            } else {
                blocks.group(1).lines().forEach(line -> statements.append(asQuestion(line)).append('\n'));
            }
        }
        return "public final class ReadmeExample {\n" + methods + "public static void examples(java.util.function.BiConsumer"
                + "<String, java.util.concurrent.Callable<Object>> asker) {\n" + statements + "}\n}\n";
    }

    private static String asQuestion(String line) {
        Matcher told = TOLD.matcher(line);
        if (told.matches()) {
            return "asker.accept(\"" + line.replace("\"", "'") + "\", () -> " + told.group(1) + ");";
        }
        boolean tellsNothing = SILENT.matcher(line).matches() || !line.startsWith("x.") && !line.startsWith("y.");
        CHECK.due("an answer is told: " + line, tellsNothing, true);
        return line;
    }

    private static void delete(Path folder) throws IOException {
        try (Stream<Path> files = Files.walk(folder)) {
            List<Path> innermostFirst = files.sorted(Comparator.reverseOrder()).collect(Collectors.toList());
            for (Path file : innermostFirst) {
                Files.delete(file);
            }
        }
    }
}
