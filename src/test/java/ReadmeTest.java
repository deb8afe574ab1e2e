import java.io.File;
import java.io.IOException;
import java.lang.reflect.Field;
import java.lang.reflect.Method;
import java.lang.reflect.Modifier;
import java.net.URL;
import java.net.URLClassLoader;
import java.nio.file.Files;
import java.nio.file.Path;
import java.util.Comparator;
import java.util.List;
import java.util.regex.Matcher;
import java.util.regex.Pattern;
import java.util.stream.Collectors;
import java.util.stream.Stream;
import javax.tools.JavaCompiler;
import javax.tools.ToolProvider;

/** What README.md says is so: its examples answer what stands behind them, what it names is there, all calls and tests are named. */
public final class ReadmeTest {
    private static final Pattern EXAMPLE = Pattern.compile("(?s)```java\n(.*?)```");
    /** A call alone on its line, with its answer behind it. */
    private static final Pattern ANSWERED = Pattern.compile("(x\\.\\w+\\(.*?\\)); +// (-?\\d+)(?:$|:.*)");
    private static final Pattern ROW = Pattern.compile("row (\\d) is (?:now )?\\{([\\d, ]*)\\}");
    private static final Pattern FILE = Pattern.compile("`((?:\\.ci|\\.\\.|src)/[^`]*)`");
    private static final int LEAST_ANSWERS = 20, LEAST_ROWS = 5, LEAST_FILES = 8;

    private static int wrong = 0;

    public static void main(String[] args) throws Exception {
        String page = Files.readString(Path.of("README.md"));
        examples(page);
        files(page);
        calls(page);
        constants(page);
        System.out.println(wrong == 0 ? "README.md is so" : wrong + " things in README.md are not so");
        if (wrong != 0) {
            System.exit(1);
        }
    }

    private static void must(boolean holds, String what) {
        if (!holds) {
            wrong++;
            System.out.println("README.md: " + what);
        }
    }

    // ---- the examples, one behind the other on one object

    private static void examples(String page) throws Exception {
        StringBuilder told = new StringBuilder();
        StringBuilder asked = new StringBuilder();
        StringBuilder looks = new StringBuilder();
        int answers = 0;
        int rows = 0;
        Matcher example = EXAMPLE.matcher(page);
        while (example.find()) {
            for (String line : example.group(1).split("\n")) {
                told.append(line).append('\n');
                Matcher call = ANSWERED.matcher(line);
                if (!call.matches()) {
                    must(!line.matches("x\\..*//.*"), "no answer can be read in: " + line);
                    asked.append(line).append('\n');
                    continue;
                }
                answers++;
                asked.append(String.format("due(\"%s\", %s, %sL);%n", call.group(1), call.group(1), call.group(2)));
                Matcher row = ROW.matcher(line);
                while (row.find()) {
                    rows++;
                    looks.append(look(rows, call.group(1), told.toString(), row.group(1), row.group(2)));
                    asked.append("look").append(rows).append("();\n");
                }
            }
        }
        must(answers >= LEAST_ANSWERS, "only " + answers + " answers stand in its examples");
        must(rows >= LEAST_ROWS, "only " + rows + " rows stand in its examples");
        run(asked.toString(), looks.toString());
    }

    /** A ROW is looked at in another object by the same lines: at() would change what the next line tells. */
    private static String look(int number, String call, String lines, String r, String places) {
        return String.format("static void look%d() {%n%srow(x, \"%s\", %s, new int[] {%s});%n}%n", number, lines, call, r, places);
    }

    private static String source(String asked, String looks) {
        return "import java.util.ArrayList;\n"
            + "public final class ReadmeExample {\n"
            + "    static final ArrayList<String> faults = new ArrayList<>();\n"
            + "    static void due(String what, long got, long want) {\n"
            + "        if (got != want) { faults.add(what + \" is \" + got + \", not \" + want); }\n"
            + "    }\n"
            + "    static void row(KnotRopes x, String call, int r, int[] want) {\n"
            + "        for (int i = 0; i < want.length; i++) {\n"
            + "            due(call + \", at(\" + r + \", \" + i + \")\", x.at(r, i), 1);\n"
            + "            due(call + \", place \" + i + \" of row \" + r, x.asked(), want[i]);\n"
            + "        }\n"
            + "        due(call + \", one place more of row \" + r, x.at(r, want.length), KnotRopes.FINDING);\n"
            + "    }\n"
            + looks
            + "    public static ArrayList<String> faults() {\n" + asked + "        return faults;\n    }\n}\n";
    }

    private static void run(String asked, String looks) throws Exception {
        JavaCompiler compiler = ToolProvider.getSystemJavaCompiler();
        must(compiler != null, "its examples can't be compiled without a JDK");
        if (compiler == null) {
            return;
        }
        Path out = Files.createTempDirectory("readme");
        try {
            Path file = out.resolve("ReadmeExample.java");
            Files.writeString(file, source(asked, looks));
            String classes = System.getProperty("java.class.path");
            int code = compiler.run(null, null, null, "-cp", classes, "-d", out.toString(), file.toString());
            must(code == 0, "its examples can't be compiled");
            if (code == 0) {
                report(out);
            }
        } finally {
            remove(out);
        }
    }

    private static void report(Path out) throws Exception {
        try (URLClassLoader loader = new URLClassLoader(new URL[] {out.toUri().toURL()})) {
            Object faults = loader.loadClass("ReadmeExample").getMethod("faults").invoke(null);
            for (Object fault : (List<?>) faults) {
                must(false, fault.toString());
            }
        }
    }

    private static void remove(Path directory) throws IOException {
        try (Stream<Path> all = Files.walk(directory)) {
            for (Path each : all.sorted(Comparator.reverseOrder()).collect(Collectors.toList())) {
                Files.delete(each);
            }
        }
    }

    // ---- what it names

    private static void files(String page) {
        int files = 0;
        Matcher file = FILE.matcher(page);
        while (file.find()) {
            files++;
            must(new File(file.group(1)).exists(), "there is no " + file.group(1));
        }
        must(files >= LEAST_FILES, "only " + files + " files are named");
        must(page.contains("\nbash .ci/run\n") && new File(".ci/run").canExecute(), "how its tests are run");
        String[] tests = new File("src/test/java").list();
        must(tests != null && tests.length > 0, "there are no tests");
        for (String test : tests == null ? new String[0] : tests) {
            String name = test.replace(".java", "");
            boolean named = page.contains("`src/test/java/" + test + "`") || !name.endsWith("Test") && page.contains("`" + name + "`");
            must(named, test + " is not named");
        }
    }

    private static void calls(String page) {
        for (Method method : KnotRopes.class.getDeclaredMethods()) {
            if (Modifier.isPublic(method.getModifiers())) {
                must(page.contains("`" + method.getName() + "`"), method.getName() + " is not named");
            }
        }
    }

    private static void constants(String page) throws IllegalAccessException {
        for (Field field : KnotRopes.class.getFields()) {
            String told = "`" + field.getName() + "` (" + field.getInt(null) + ")";
            must(page.contains(told), told + " does not stand there");
        }
    }
}
