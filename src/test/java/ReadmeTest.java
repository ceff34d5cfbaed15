import java.io.IOException;
import java.net.URL;
import java.net.URLClassLoader;
import java.nio.file.Files;
import java.nio.file.Path;
import java.util.ArrayList;
import java.util.Comparator;
import java.util.List;
import java.util.regex.Matcher;
import java.util.regex.Pattern;
import java.util.stream.Stream;
import javax.tools.ToolProvider;

/** README.md: its run of calls is compiled as printed and must answer as printed; it names every file and every refusal. */
public final class ReadmeTest {
    private static final Checks CHECKS = new Checks();
    private static final Pattern BLOCK = Pattern.compile("```java\n(.*?)```", Pattern.DOTALL);
    private static final Pattern CALL = Pattern.compile("(x\\.\\w+\\(.*\\));\\s+// (-?\\d+): .+");
    private static final int FEWEST_CALLS = 20;

    private ReadmeTest() {
    }

    public static void main(String[] args) throws IOException, ReflectiveOperationException {
        String readme = Files.readString(Path.of("README.md"));
        CHECKS.part("README.md, the run of calls");
        run(readme);
        CHECKS.part("README.md, files");
        files(readme);
        CHECKS.part("README.md, refusals");
        refusals(readme);
        CHECKS.end();
    }

    private static void dueTrue(String what, boolean is) {
        CHECKS.due(what, is ? 1 : 0, 1);
    }

    private static void run(String readme) throws IOException, ReflectiveOperationException {
        Matcher block = BLOCK.matcher(readme);
        dueTrue("there is a run of calls", block.find());
        List<String> calls = new ArrayList<>();
        List<Long> printed = new ArrayList<>();
        StringBuilder code = new StringBuilder("public final class ReadmeRun {\n");
        code.append("public static long[] answers(int many) {\nlong[] answers = new long[many];\nint next = 0;\n");
        for (String line : block.group(1).split("\n")) {
            Matcher call = CALL.matcher(line);
            if (call.matches()) {
                calls.add(call.group(1));
                printed.add(Long.parseLong(call.group(2)));
                code.append("answers[next++] = ").append(call.group(1)).append(";\n");
            } else {
                dueTrue(line + " tells its answer", !line.startsWith("x."));
                code.append(line).append('\n');
            }
        }
        code.append("return answers;\n}\n}\n");
        dueTrue("there are calls enough", calls.size() >= FEWEST_CALLS);
        long[] answers = answers(code.toString(), calls.size());
        for (int i = 0; i < calls.size(); i++) {
            CHECKS.due(calls.get(i), answers[i], printed.get(i));
        }
    }

    private static long[] answers(String code, int many) throws IOException, ReflectiveOperationException {
        Path made = Files.createTempDirectory("readme");
        try {
            Path file = Files.writeString(made.resolve("ReadmeRun.java"), code);
            int exit = ToolProvider.getSystemJavaCompiler().run(null, null, null, "-Xlint:all", "-Werror",
                "-cp", System.getProperty("java.class.path"), "-d", made.toString(), file.toString());
            CHECKS.due("javac's exit code", exit, 0);
            try (URLClassLoader loader = new URLClassLoader(new URL[] {made.toUri().toURL()})) {
                return (long[]) loader.loadClass("ReadmeRun").getMethod("answers", int.class).invoke(null, many);
            }
        } finally {
            remove(made);
        }
    }

    private static void remove(Path folder) throws IOException {
        try (Stream<Path> all = Files.walk(folder)) {
            for (Path path : all.sorted(Comparator.reverseOrder()).toList()) {
                Files.delete(path);
            }
        }
    }

    private static void files(String readme) throws IOException {
        try (Stream<Path> all = Files.walk(Path.of("src"))) {
            for (Path path : all.filter(Files::isRegularFile).toList()) {
                String name = path.getFileName().toString();
                dueTrue(path + " is named", readme.matches("(?s).*[/`]" + Pattern.quote(name) + "`.*"));
            }
        }
        for (String name : new String[] {".ci/run", "NOTES.md"}) {
            dueTrue(name + " is named", readme.contains("`" + name + "`") && Files.exists(Path.of(name)));
        }
        Matcher named = Pattern.compile("`(?:src/[a-z/]*/)?(\\w+)\\.java`").matcher(readme);
        while (named.find()) {
            String name = named.group(1) + ".java";
            dueTrue(name + " is there", Files.exists(Path.of("src/main/java", name))
                || Files.exists(Path.of("src/test/java", name)));
        }
    }

    private static void refusals(String readme) {
        String[] names = {"`BAD`", "`STATE`", "`FULL`", "NULL", "PLACE", "KIND", "SIZE", "STORE"};
        int[] answers = {JingleLaws.BAD, JingleLaws.STATE, JingleLaws.FULL,
            Checks.NULL, Checks.PLACE, Checks.KIND, Checks.SIZE, Checks.STORE};
        for (int i = 0; i < names.length; i++) {
            dueTrue(names[i] + " is told", readme.contains("| " + answers[i] + " | " + names[i] + " |"));
        }
        dueTrue("NONE is told", readme.contains("`NONE`, " + JingleLaws.NONE + " "));
    }
}
