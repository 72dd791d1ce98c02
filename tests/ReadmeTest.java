import java.io.IOException;
import java.lang.reflect.Method;
import java.lang.reflect.Modifier;
import java.net.URL;
import java.net.URLClassLoader;
import java.nio.file.Files;
import java.nio.file.Path;
import java.util.ArrayList;
import java.util.List;
import java.util.regex.Matcher;
import java.util.regex.Pattern;
import javax.tools.JavaCompiler;
import javax.tools.ToolProvider;

/** What README.md says is so: its Java answers what stands behind //, and it names each call, command and test. */
public final class ReadmeTest {
    private static final Path README = Path.of("README.md");
    private static final Path ROOM = Path.of("build", "readme");
    private static final String SOURCE = "src/main/java/SnowMoney.java";
    private static final Pattern ANSWERED = Pattern.compile("(?:int (\\w+) = )?(duchy\\.\\w+\\(.*\\)); *// (-?\\d+): .+");
    private static int wrong = 0;

    private ReadmeTest() {
    }

    private static void need(boolean good, String what) {
        if (!good) {
            wrong++;
            System.out.println("README.md: " + what);
        }
    }

    /** The answer that stands behind // in README.md, and the one that came; the example calls this. */
    public static void due(String line, int got, int want) {
        need(got == want, line + " (it answered " + got + ")");
    }

    public static void main(String[] args) throws Exception {
        List<String> lines = Files.readAllLines(README);
        example(blocks(lines, "java"));
        calls(lines);
        commands(blocks(lines, "sh"));
        tests(lines);
        System.out.println(wrong == 0 ? "README.md is so" : wrong + " things of README.md are not so");
        if (wrong != 0) {
            System.exit(1);
        }
    }

    /** The lines of all blocks of this language, in order. */
    private static List<String> blocks(List<String> lines, String language) {
        List<String> found = new ArrayList<>();
        boolean within = false;
        for (String line : lines) {
            if (line.startsWith("```")) {
                within = line.equals("```" + language);
            } else if (within) {
                found.add(line);
            }
        }
        return found;
    }

    /** The lines of Java make one program; each that tells an answer is asked for it. */
    private static void example(List<String> lines) throws Exception {
        StringBuilder s = new StringBuilder("public final class ReadmeExample {\n    public static void run() {\n");
        int asked = 0;
        for (String line : lines) {
            Matcher m = ANSWERED.matcher(line);
            boolean answered = m.matches();
            need(answered || !line.contains("//"), "no answer can be read in: " + line);
            if (!answered) {
                s.append(line).append('\n');
                continue;
            }
            asked++;
            String name = m.group(1);
            if (name != null) {
                s.append("int ").append(name).append(" = ").append(m.group(2)).append(";\n");
            }
            String label = m.group(2).replace("\\", "\\\\").replace("\"", "\\\"") + " // " + m.group(3);
            s.append("ReadmeTest.due(\"").append(label).append("\", ").append(name != null ? name : m.group(2))
                .append(", ").append(m.group(3)).append(");\n");
        }
        need(asked >= 30, "only " + asked + " answers of its Java are told");
        run(s.append("    }\n}\n").toString());
    }

    private static void run(String program) throws Exception {
        Files.createDirectories(ROOM);
        Path file = ROOM.resolve("ReadmeExample.java");
        Files.writeString(file, program);
        JavaCompiler compiler = ToolProvider.getSystemJavaCompiler();
        if (compiler == null) {
            need(false, "there is no compiler for its Java");
            return;
        }
        int refused = compiler.run(null, null, null, "--release", "17", "-cp", System.getProperty("java.class.path"),
            "-d", ROOM.toString(), file.toString());
        need(refused == 0, "its Java doesn't compile");
        if (refused == 0) {
            try (URLClassLoader loader = new URLClassLoader(new URL[] {ROOM.toUri().toURL()})) {
                loader.loadClass("ReadmeExample").getMethod("run").invoke(null);
            }
        }
    }

    /** The table has a row for each call of the face, with as many arguments as it takes, and no row beside. */
    private static void calls(List<String> lines) {
        List<String> rows = new ArrayList<>();
        for (String line : lines) {
            Matcher m = Pattern.compile("\\| `(\\w+)\\(([^)]*)\\)` \\| .+ \\|").matcher(line);
            if (m.matches()) {
                rows.add(m.group(1) + " " + (m.group(2).isEmpty() ? 0 : m.group(2).split(", ").length));
            }
        }
        int face = 0;
        for (Method m : SnowMoney.class.getDeclaredMethods()) {
            if (Modifier.isPublic(m.getModifiers())) {
                face++;
                String call = m.getName() + " " + m.getParameterCount();
                need(rows.contains(call), "no row for " + call);
            }
        }
        need(rows.size() == face, rows.size() + " rows for " + face + " calls");
    }

    private static void commands(List<String> lines) throws IOException {
        String script = Files.readString(Path.of(".ci/run"));
        need(lines.contains(".ci/run") && Files.isExecutable(Path.of(".ci/run")), ".ci/run can't be run");
        for (String line : lines) {
            String[] words = line.split(" ");
            String last = words[words.length - 1];
            switch (words[0]) {
                case ".ci/run":
                    break;
                case "javac":
                    need(last.equals(SOURCE) && Files.exists(Path.of(last)), "not the program: " + line);
                    compile(words);
                    break;
                case "java":
                    need(words.length > 3 && words[2].equals("build/" + words[3])
                        && Files.exists(Path.of("tests", words[3] + ".java")), "no such test: " + line);
                    need(script.contains("out=build/$name"), ".ci/run puts tests elsewhere");
                    break;
                default:
                    need(false, "an unknown command: " + line);
            }
        }
    }

    private static void compile(String[] words) {
        JavaCompiler compiler = ToolProvider.getSystemJavaCompiler();
        String[] rest = new String[words.length - 1];
        System.arraycopy(words, 1, rest, 0, rest.length);
        need(compiler != null && compiler.run(null, null, null, rest) == 0, "refused: " + String.join(" ", words));
    }

    private static void tests(List<String> lines) {
        String all = String.join("\n", lines);
        Matcher named = Pattern.compile("`(tests/\\w+\\.java)`").matcher(all);
        int many = 0;
        while (named.find()) {
            many++;
            need(Files.exists(Path.of(named.group(1))), "there is no " + named.group(1));
        }
        String[] there = Path.of("tests").toFile().list((dir, name) -> name.endsWith(".java"));
        need(there != null && there.length == many, many + " tests are named");
        for (String name : there == null ? new String[0] : there) {
            need(all.contains("`tests/" + name + "`"), "it doesn't name tests/" + name);
        }
    }
}
