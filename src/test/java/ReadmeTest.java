import java.io.IOException;
import java.lang.reflect.Method;
import java.lang.reflect.Modifier;
import java.net.URL;
import java.net.URLClassLoader;
import java.nio.file.Files;
import java.nio.file.Path;
import java.util.ArrayList;
import java.util.List;
import java.util.Set;
import java.util.TreeSet;
import java.util.function.BiConsumer;
import java.util.regex.Matcher;
import java.util.regex.Pattern;
import java.util.stream.Collectors;
import java.util.stream.Stream;
import javax.tools.ToolProvider;

/** README.md is so as it says: its examples run and answer as shown, and it leaves no method or test out. */
public final class ReadmeTest {
    private static final Pattern FENCED = Pattern.compile("```(\\w+)\n(.*?)```", Pattern.DOTALL);
    private static final Pattern NEW_OBJECT = Pattern.compile("BlockCoder coder = new BlockCoder\\(\\);");
    /** A call with its answer behind it, and perhaps a remark behind a colon. */
    private static final Pattern SHOWN = Pattern.compile("(?:(\\w+) (\\w+) = )?(coder\\.\\w+\\(.*\\)); +// ([^:]+?)(?:: .*)?");

    private final Check check;
    private final String readme;
    private final Path folder;

    private ReadmeTest(Check check, String readme, Path folder) {
        this.check = check;
        this.readme = readme;
        this.folder = folder;
    }

    public static void main(String[] args) throws Exception {
        Check check = new Check();
        Path folder = Files.createTempDirectory("readme");
        try {
            ReadmeTest test = new ReadmeTest(check, Files.readString(Path.of("README.md")), folder);
            test.examplesAnswerAsShown();
            test.commandsRun();
            test.everyMethodIsShown();
            test.everyClassIsNamed();
            test.everyTestIsNamed();
        } finally {
            remove(folder);
        }
        check.finish("ReadmeTest");
    }

    private static void remove(Path folder) throws IOException {
        for (Path path : all(folder).sorted((a, b) -> b.compareTo(a)).toList()) {
            Files.delete(path);
        }
    }

    private static Stream<Path> all(Path folder) throws IOException {
        try (Stream<Path> paths = Files.walk(folder)) {
            return paths.toList().stream();
        }
    }

    private List<String> fenced(String language) {
        List<String> parts = new ArrayList<>();
        Matcher matcher = FENCED.matcher(readme);
        while (matcher.find()) {
            if (matcher.group(1).equals(language)) {
                parts.add(matcher.group(2));
            }
        }
        return parts;
    }

    private void examplesAnswerAsShown() throws Exception {
        List<String> examples = fenced("java");
        check.same("README has examples", "" + (examples.size() > 1), "true");
        for (int i = 0; i < examples.size(); i++) {
            runExample("Example" + i, examples.get(i).lines().toList());
        }
    }

    /** Compiled as it stands, but for a look at each answer behind its line. */
    private void runExample(String name, List<String> lines) throws Exception {
        StringBuilder source = new StringBuilder("public final class " + name + " {\n"
            + "public static void run(java.util.function.BiConsumer<String, Object> tell) {\n");
        List<String> due = new ArrayList<>();
        for (String line : lines) {
            Matcher shown = SHOWN.matcher(line);
            if (shown.matches()) {
                due.add(shown.group(4).trim());
                source.append(told(shown));
            } else {
                check.same("a line of an example that shows no answer: " + line,
                    "" + NEW_OBJECT.matcher(line).matches(), "true");
                source.append(line).append('\n');
            }
        }
        Path file = folder.resolve(name + ".java");
        Files.writeString(file, source.append("}\n}\n").toString());
        int failed = ToolProvider.getSystemJavaCompiler().run(null, null, null,
            "-cp", System.getProperty("java.class.path"), "-d", folder.toString(), file.toString());
        check.same(name + " compiles", "" + (failed == 0), "true");
        if (failed == 0) {
            runCompiled(name, due);
        }
    }

    private static String told(Matcher shown) {
        String name = "\"" + shown.group(3) + "\"";
        if (shown.group(4).startsWith("throws ")) {
            return "try { tell.accept(" + name + ", " + shown.group(3) + "); } catch (RuntimeException e) {\n"
                + "tell.accept(" + name + ", \"throws \" + e.getClass().getSimpleName()); }\n";
        }
        if (shown.group(2) == null) {
            return "tell.accept(" + name + ", " + shown.group(3) + ");\n";
        }
        return shown.group(1) + " " + shown.group(2) + " = " + shown.group(3) + ";\n"
            + "tell.accept(" + name + ", " + shown.group(2) + ");\n";
    }

    private void runCompiled(String name, List<String> due) throws Exception {
        List<String> calls = new ArrayList<>();
        List<String> answers = new ArrayList<>();
        BiConsumer<String, Object> tell = (call, answer) -> {
            calls.add(call);
            answers.add(String.valueOf(answer));
        };
        try (URLClassLoader loader = new URLClassLoader(new URL[] {folder.toUri().toURL()})) {
            loader.loadClass(name).getMethod("run", BiConsumer.class).invoke(null, tell);
        }
        check.same(name + ": answers", "" + answers.size(), "" + due.size());
        for (int i = 0; i < Math.min(due.size(), answers.size()); i++) {
            check.same("README, " + name + ": " + calls.get(i), answers.get(i), due.get(i));
        }
    }

    /** In a copy, so that the project's folder stays as it was. */
    private void commandsRun() throws Exception {
        Path copy = folder.resolve("copy");
        for (Path path : all(Path.of("src")).toList()) {
            Path to = copy.resolve(path.toString());
            Files.createDirectories(to.getParent());
            Files.copy(path, to);
        }
        List<String> commands = fenced("sh");
        check.same("README's commands: all tests first", commands.get(0), ".ci/run\n");
        check.same(".ci/run can be run", "" + Files.isExecutable(Path.of(".ci/run")), "true");
        check.same("README's commands: one test", "" + (commands.size() == 2), "true");
        for (String command : commands.subList(1, commands.size())) {
            Path printed = folder.resolve("printed");
            int code = new ProcessBuilder("sh", "-e", "-c", command).directory(copy.toFile())
                .redirectErrorStream(true).redirectOutput(printed.toFile()).start().waitFor();
            check.same("README's command " + command + Files.readString(printed), "" + code, "0");
        }
    }

    private void everyMethodIsShown() {
        String examples = String.join("", fenced("java"));
        for (Method method : BlockCoder.class.getDeclaredMethods()) {
            if (Modifier.isPublic(method.getModifiers())) {
                check.same("an example shows " + method.getName(),
                    "" + examples.contains("coder." + method.getName() + "("), "true");
            }
        }
    }

    private void everyClassIsNamed() {
        Set<String> inside = Stream.of(BlockCoder.class.getDeclaredClasses())
            .map(Class::getSimpleName).collect(Collectors.toCollection(TreeSet::new));
        check.same("the classes under 'How it works'", namesIn("## How it works", "\\w+").toString(), inside.toString());
    }

    private void everyTestIsNamed() throws IOException {
        Set<String> files = all(Path.of("src/test/java")).map(path -> path.getFileName().toString())
            .filter(name -> name.endsWith(".java")).map(name -> name.substring(0, name.length() - ".java".length()))
            .collect(Collectors.toCollection(TreeSet::new));
        check.same("the files under 'Tests'", namesIn("## Tests", "[A-Z][a-z]\\w+").toString(), files.toString());
    }

    /** The names between back quotes from a heading to the next one. */
    private Set<String> namesIn(String heading, String form) {
        int from = readme.indexOf(heading);
        int to = readme.indexOf("\n## ", from + 1);
        Matcher matcher = Pattern.compile("`(" + form + ")`").matcher(readme.substring(from, to < 0 ? readme.length() : to));
        Set<String> names = new TreeSet<>();
        while (matcher.find()) {
            names.add(matcher.group(1));
        }
        return names;
    }
}
