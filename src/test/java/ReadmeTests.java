import java.io.IOException;
import java.lang.reflect.InvocationTargetException;
import java.net.URL;
import java.net.URLClassLoader;
import java.nio.file.DirectoryStream;
import java.nio.file.Files;
import java.nio.file.Path;
import java.util.ArrayList;
import java.util.List;
import java.util.Set;
import java.util.TreeSet;
import java.util.regex.Matcher;
import java.util.regex.Pattern;

/** That README.md holds: its example answers what its comments say, and what it names is there. */
public final class ReadmeTests {
    /** A call of the example: what the answer is kept in (or nothing), the call, and the answer in the comment. */
    private static final Pattern CALL =
        Pattern.compile("(?:(int|long) (\\w+) = )?(web\\.\\w+\\(.*\\)); *// (-?\\d+|[A-Z]+)(:.*)?");
    private static final String FIRST_LINE = "RightsWeb web = new RightsWeb();";
    private static final Path BUILD = Path.of("build/readme");

    private static final Checks CHECKS = new Checks();

    private ReadmeTests() {
    }

    public static void main(String[] args) throws IOException {
        String page = Files.readString(Path.of("README.md"));
        example(block(page, "java"));
        classesInside(page);
        tests(page);
        commands(page);
        CHECKS.exit();
    }

    /** All lines of the page's blocks of one language. */
    private static List<String> block(String page, String language) {
        List<String> lines = new ArrayList<>();
        boolean inside = false;
        for (String line : page.split("\n")) {
            if (line.startsWith("```")) {
                inside = line.equals("```" + language);
            } else if (inside) {
                lines.add(line);
            }
        }
        return lines;
    }

    private static void example(List<String> lines) throws IOException {
        List<String> calls = new ArrayList<>();
        List<Long> due = new ArrayList<>();
        StringBuilder code = new StringBuilder("public final class Example {\npublic static void run(long[] got) {\n");
        CHECKS.isTrue("the example begins with a new object", lines.size() > 1 && lines.get(0).equals(FIRST_LINE));
        code.append(FIRST_LINE).append('\n');
        for (String line : lines.subList(Math.min(1, lines.size()), lines.size())) {
            Matcher call = CALL.matcher(line);
            boolean isCall = call.matches();
            CHECKS.isTrue("a call with its answer: " + line, isCall);
            if (isCall) {
                append(code, call, calls.size());
                calls.add(call.group(3));
                due.add(answer(call.group(4)));
            }
        }
        long[] got = new long[calls.size()];
        run(code.append("}\n}\n").toString(), got);
        for (int i = 0; i < got.length; i++) {
            CHECKS.due(calls.get(i), got[i], due.get(i));
        }
        CHECKS.end("README.md: the example's answers are those in its comments");
    }

    private static void append(StringBuilder code, Matcher call, int number) {
        String got = call.group(3);
        if (call.group(2) != null) {
            code.append(call.group(1)).append(' ').append(call.group(2)).append(" = ").append(got).append(";\n");
            got = call.group(2);
        }
        code.append("got[").append(number).append("] = ").append(got).append(";\n");
    }

    private static long answer(String told) {
        try {
            return Character.isUpperCase(told.charAt(0)) ? RightsWeb.class.getField(told).getInt(null)
                : Long.parseLong(told);
        } catch (NoSuchFieldException | IllegalAccessException e) {
            CHECKS.isTrue("a constant: " + told, false);
            return 0;
        }
    }

    private static void run(String code, long[] got) throws IOException {
        Files.createDirectories(BUILD);
        Path file = BUILD.resolve("Example.java");
        Files.writeString(file, code);
        int refused = compile(file);
        CHECKS.due("compiling the example", refused, 0);
        if (refused != 0) {
            return;
        }
        try (URLClassLoader loader = new URLClassLoader(new URL[] {BUILD.toUri().toURL()})) {
            loader.loadClass("Example").getMethod("run", long[].class).invoke(null, got);
        } catch (ClassNotFoundException | NoSuchMethodException | IllegalAccessException | InvocationTargetException e) {
            CHECKS.isTrue("the example runs: " + e, false);
        }
    }

    private static int compile(Path file) throws IOException {
        String classes = System.getProperty("java.class.path");
        Process javac = new ProcessBuilder("javac", "-cp", classes, "-d", BUILD.toString(), file.toString()).inheritIO()
            .start();
        try {
            return javac.waitFor();
        } catch (InterruptedException e) {
            return 1;
        }
    }

    private static void classesInside(String page) {
        Set<String> told = new TreeSet<>();
        Matcher row = Pattern.compile("(?m)^\\| `(\\w+)` \\|").matcher(page);
        while (row.find()) {
            told.add(row.group(1));
        }
        Set<String> are = new TreeSet<>();
        for (Class<?> c : RightsWeb.class.getDeclaredClasses()) {
            are.add(c.getSimpleName());
        }
        CHECKS.isTrue("the classes inside are " + are + ", told are " + told, are.equals(told));
        CHECKS.end("README.md: the classes inside");
    }

    /** Each file of the tests is told of, and no other. */
    private static void tests(String page) throws IOException {
        Path folder = Path.of("src/test/java");
        try (DirectoryStream<Path> files = Files.newDirectoryStream(folder, "*.java")) {
            for (Path file : files) {
                String name = file.getFileName().toString().replace(".java", "");
                boolean isTold = page.contains("`" + name + "`") || name.equals("Checks");
                CHECKS.isTrue(name + " is told of", isTold);
            }
        }
        Matcher told = Pattern.compile("`(\\w+Tests)`").matcher(page);
        while (told.find()) {
            CHECKS.isTrue(told.group(1) + " is there", Files.exists(folder.resolve(told.group(1) + ".java")));
        }
        Matcher path = Pattern.compile("`((?:src|\\.ci|\\.\\./shared)/?[\\w/.]*)`").matcher(page);
        while (path.find()) {
            CHECKS.isTrue(path.group(1) + " is there", Files.exists(Path.of(path.group(1))));
        }
        CHECKS.end("README.md: the tests and files that it names");
    }

    private static void commands(String page) {
        List<String> lines = block(page, "sh");
        CHECKS.isTrue("the first command is .ci/run", !lines.isEmpty() && lines.get(0).equals(".ci/run"));
        CHECKS.isTrue(".ci/run can be run", Files.isExecutable(Path.of(".ci/run")));
        for (String line : lines.subList(Math.min(1, lines.size()), lines.size())) {
            String[] words = line.split(" ");
            boolean isTest = words.length > 3 && line.startsWith("java -cp build/tests ");
            CHECKS.isTrue("a command that runs a test: " + line, isTest && hasMain(words[3]));
        }
        CHECKS.end("README.md: its commands");
    }

    private static boolean hasMain(String name) {
        try {
            return Class.forName(name).getMethod("main", String[].class) != null;
        } catch (ClassNotFoundException | NoSuchMethodException e) {
            return false;
        }
    }
}
