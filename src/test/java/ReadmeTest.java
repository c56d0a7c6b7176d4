import java.io.File;
import java.io.IOException;
import java.lang.reflect.Method;
import java.lang.reflect.Modifier;
import java.net.URL;
import java.net.URLClassLoader;
import java.nio.file.Files;
import java.nio.file.Path;
import java.util.ArrayList;
import java.util.List;
import java.util.TreeSet;
import java.util.regex.Matcher;
import java.util.regex.Pattern;
import javax.tools.JavaCompiler;
import javax.tools.ToolProvider;

/**
 * README.md is as the class answers: its code is compiled and run, each call's
 * answer against the number behind it; its way to run one test is taken; the
 * tests and the calls that it names are those that there are.
 */
public final class ReadmeTest {
    private static final Path README = Path.of("README.md");
    private static final Path RUN = Path.of(".ci/run");
    private static final Path TESTS = Path.of("src/test/java");
    private static final String RUN_ALL = "bash .ci/run";
    private static final Pattern BLOCK = Pattern.compile("(?ms)^```(\\w*)\n(.*?)^```$");
    private static final Pattern CALL = Pattern.compile(
        "(x\\.\\w+\\([^;]*\\)|tellNet\\(x, \"[^\"]*\", \\d\\));\\s*// (-?\\d+)(?:: (.*))?");
    private static final Pattern TOLD_OUT = Pattern.compile("OUT has \"([^\"]*)\"");

    private static final TreeSet<String> called = new TreeSet<>();
    private static int asked = 0;
    private static int wrong = 0;

    public static void main(String[] args) throws Exception {
        String text = Files.readString(README);
        Path into = Files.createTempDirectory("readme");
        try {
            runShown(javaOf(text), into);
        } finally {
            remove(into);
        }
        lookAtCalls(text);
        lookAtTests(text);
        lookAtCommands(text);
        System.out.println(asked + " answers looked at, " + wrong + " wrong");
        if (wrong != 0) {
            System.exit(1);
        }
    }

    private static void say(String fault) {
        wrong++;
        System.out.println(fault);
    }

    /** What the code made of the page calls for each answer that is shown. */
    public static void due(String shown, int got, int want) {
        asked++;
        if (got != want) {
            say("README.md says " + shown + " but the answer is " + got);
        }
    }

    /** What the code made of the page calls where it shows what OUT has. */
    public static void outHas(String shown, FairLabels x, String want) {
        StringBuilder out = new StringBuilder();
        for (int i = 0; i < x.count(3); i++) {
            out.append((char) x.octet(i));
        }
        asked++;
        if (!out.toString().equals(want)) {
            say("README.md says " + shown + " but OUT has " + out);
        }
    }

    private static List<String> blocks(String text, String language) {
        List<String> all = new ArrayList<>();
        Matcher m = BLOCK.matcher(text);
        while (m.find()) {
            if (m.group(1).equals(language)) {
                all.add(m.group(2));
            }
        }
        return all;
    }

    /** A helper stays a method; each other block becomes a run of its own. */
    private static String javaOf(String text) {
        StringBuilder members = new StringBuilder();
        StringBuilder runs = new StringBuilder();
        for (String block : blocks(text, "java")) {
            if (block.startsWith("static ")) {
                members.append(block);
            } else {
                runs.append("{\n").append(checkedRun(block)).append("}\n");
            }
        }
        return "public final class Shown {\n" + members + "public static void run() {\n" + runs + "}\n}\n";
    }

    private static String checkedRun(String block) {
        StringBuilder run = new StringBuilder();
        for (String row : block.split("\n")) {
            Matcher m = CALL.matcher(row);
            if (m.matches()) {
                String shown = quoted(row.replaceAll("\\s+", " "));
                run.append("ReadmeTest.due(" + shown + ", " + m.group(1) + ", " + m.group(2) + ");\n");
                Matcher out = TOLD_OUT.matcher(m.group(3) == null ? "" : m.group(3));
                if (out.find()) {
                    run.append("ReadmeTest.outHas(" + shown + ", x, " + quoted(out.group(1)) + ");\n");
                }
                if (row.startsWith("x.")) {
                    called.add(row.substring(2, row.indexOf('(')));
                }
            } else if (row.equals("FairLabels x = new FairLabels();")) {
                run.append(row).append('\n');
            } else {
                say("README.md shows no answer: " + row);
            }
        }
        return run.toString();
    }

    private static String quoted(String row) {
        return "\"" + row.replace("\\", "\\\\").replace("\"", "\\\"") + "\"";
    }

    private static void runShown(String code, Path into) throws Exception {
        Path source = into.resolve("Shown.java");
        Files.writeString(source, code);
        JavaCompiler compiler = ToolProvider.getSystemJavaCompiler();
        if (compiler == null) {
            say("there is no compiler");
            return;
        }
        int failed = compiler.run(null, null, null, "-d", into.toString(), "-sourcepath", into.toString(),
            "-cp", System.getProperty("java.class.path"), source.toString());
        if (failed != 0) {
            say("what README.md shows does not compile");
            return;
        }
        URL[] places = {into.toUri().toURL()};
        try (URLClassLoader loader = new URLClassLoader(places, ReadmeTest.class.getClassLoader())) {
            loader.loadClass("Shown").getMethod("run").invoke(null);
        }
    }

    private static void remove(Path directory) {
        File[] files = directory.toFile().listFiles();
        for (File file : files == null ? new File[0] : files) {
            file.delete();
        }
        directory.toFile().delete();
    }

    /** Every call of the class is shown at work and has its place in the table, with its parameters. */
    private static void lookAtCalls(String text) {
        TreeSet<String> face = new TreeSet<>();
        for (Method m : FairLabels.class.getDeclaredMethods()) {
            if (Modifier.isPublic(m.getModifiers())) {
                face.add(m.getName());
                String commas = ", \\w+".repeat(Math.max(0, m.getParameterCount() - 1));
                String given = m.getParameterCount() == 0 ? "" : "\\w+" + commas;
                asked++;
                if (!Pattern.compile("(?m)^\\|.*`" + m.getName() + "\\(" + given + "\\)`.*\\|$").matcher(text).find()) {
                    say("README.md's table has no " + m.getName());
                }
            }
        }
        asked++;
        if (!called.equals(face)) {
            say("README.md shows " + called + " at work, the class has " + face);
        }
    }

    private static void lookAtTests(String text) throws IOException {
        TreeSet<String> there = new TreeSet<>();
        try (var files = Files.list(TESTS)) {
            files.forEach(file -> there.add(file.getFileName().toString().replace(".java", "")));
        }
        TreeSet<String> named = new TreeSet<>();
        Matcher m = Pattern.compile("(?m)^- `(\\w+)`: ").matcher(text);
        while (m.find()) {
            named.add(m.group(1));
        }
        asked++;
        if (!named.equals(there)) {
            say("README.md names the tests " + named + ", there are " + there);
        }
    }

    /** All but the first command are run; that one is what runs this test. */
    private static void lookAtCommands(String text) throws IOException, InterruptedException {
        List<String> commands = blocks(text, "sh");
        asked++;
        if (commands.size() < 2 || !commands.get(0).trim().equals(RUN_ALL) || !Files.isExecutable(RUN)) {
            say("README.md does not say how all tests are run, or " + RUN + " is not there to be run");
            return;
        }
        for (String command : commands.subList(1, commands.size())) {
            asked++;
            // The directory of its classes goes, as nobody looks at them here.
            String whole = "trap 'rm -rf \"$classes\"' EXIT\n" + command;
            Process run = new ProcessBuilder("bash", "-euc", whole).redirectErrorStream(true).start();
            String said = new String(run.getInputStream().readAllBytes());
            if (run.waitFor() != 0) {
                say("README.md's command fails:\n" + command + said);
            }
        }
    }
}
