import java.io.IOException;
import java.net.URL;
import java.net.URLClassLoader;
import java.nio.file.Files;
import java.nio.file.Path;
import java.util.ArrayList;
import java.util.List;
import java.util.Set;
import java.util.TreeSet;
import java.util.regex.Matcher;
import java.util.regex.Pattern;
import java.util.stream.Stream;
import javax.tools.JavaCompiler;
import javax.tools.ToolProvider;

/** What README.md says is so: its example compiles and answers as it tells, and what it names is there. */
public final class ReadmeTest {
    private static final Path PAGE = Path.of("README.md");
    private static final Path TESTS = Path.of("src/test/java");
    private static final Pattern CALL = Pattern.compile("(?:int (\\w+) = )?(folds\\.\\w+\\(.*\\));\\s*// (-?\\d+): .+");
    private static final String[] ERRORS = {"BEYOND", "NONE", "STATE", "FULL", "KIND"};
    private static final int LOW = -1000000000;
    private static int wrong = 0;

    private static void due(String what, Object got, Object want) {
        if (!got.equals(want)) {
            wrong++;
            System.out.println(what + ": " + got + ", due is " + want);
        }
    }

    public static void main(String[] args) throws Exception {
        String page = Files.readString(PAGE);
        example(blocks(page, "java"));
        errors(page);
        tests(page);
        commands(blocks(page, "sh"));
        System.out.println(wrong == 0 ? "README.md is so" : wrong + " things in README.md are not so");
        if (wrong != 0) System.exit(1);
    }

    private static List<String> blocks(String page, String language) {
        List<String> blocks = new ArrayList<>();
        Matcher m = Pattern.compile("(?s)```" + language + "\n(.*?)```").matcher(page);
        while (m.find()) blocks.add(m.group(1));
        return blocks;
    }

    private static void example(List<String> blocks) throws Exception {
        due("examples", blocks.size(), 1);
        if (blocks.isEmpty()) return;
        String example = blocks.get(0);
        List<String> calls = new ArrayList<>();
        List<Integer> told = new ArrayList<>();
        String asked = asked(example, calls, told);
        int[] got = answers(example, asked, calls.size());
        for (int i = 0; i < got.length; i++) due("README.md: " + calls.get(i), got[i], told.get(i));
    }

    /** The example with each answer kept; each of its lines but blank ones and comments must tell one. */
    private static String asked(String example, List<String> calls, List<Integer> told) {
        StringBuilder all = new StringBuilder();
        for (String line : example.split("\n")) {
            Matcher m = CALL.matcher(line);
            if (m.matches()) {
                String kept = "got[" + calls.size() + "]";
                all.append(m.group(1) == null ? "" : "int " + m.group(1) + " = ");
                all.append(kept).append(" = ").append(m.group(2)).append(";\n");
                calls.add(m.group(2));
                told.add(Integer.valueOf(m.group(3)));
            } else {
                boolean quiet = line.isBlank() || line.startsWith("//");
                due("a line without an answer", quiet ? "" : line, quiet ? "" : "CraneFolds folds = new CraneFolds();");
                all.append(line).append('\n');
            }
        }
        return all.toString();
    }

    /** Compiled twice in one class: as it stands, and with its answers kept. */
    private static int[] answers(String example, String asked, int many) throws Exception {
        Path out = Files.createTempDirectory("readme");
        try {
            Path file = out.resolve("Example.java");
            Files.writeString(file, "public class Example {\n"
                + "public static void main(String[] args) {\n" + example + "}\n"
                + "public static int[] answers() {\nint[] got = new int[" + many + "];\n" + asked + "return got;\n}\n}\n");
            JavaCompiler javac = ToolProvider.getSystemJavaCompiler();
            String path = System.getProperty("java.class.path");
            int ended = javac.run(null, null, null, "-Xlint:all", "-Werror", "-cp", path, "-d", out.toString(), file.toString());
            due("the example compiles", ended, 0);
            if (ended != 0) return new int[0];
            try (URLClassLoader loader = new URLClassLoader(new URL[] {out.toUri().toURL()})) {
                return (int[]) loader.loadClass("Example").getMethod("answers").invoke(null);
            }
        } finally {
            deleteAll(out);
        }
    }

    private static void deleteAll(Path directory) throws IOException {
        try (Stream<Path> files = Files.list(directory)) {
            for (Path file : files.toList()) Files.delete(file);
        }
        Files.delete(directory);
    }

    private static void errors(String page) {
        String text = page.replaceAll("\\s+", " ");
        for (int k = 1; k <= ERRORS.length; k++) {
            String error = (LOW - k) + " " + ERRORS[k - 1];
            due("it names " + error, text.contains(error), true);
        }
    }

    /** The tests that it names are those that there are. */
    private static void tests(String page) throws IOException {
        Set<String> named = new TreeSet<>();
        Matcher m = Pattern.compile("`(\\w+Test)`").matcher(page);
        while (m.find()) named.add(m.group(1));
        Set<String> there = new TreeSet<>();
        try (Stream<Path> files = Files.list(TESTS)) {
            for (Path file : files.toList()) {
                String name = file.getFileName().toString();
                if (name.endsWith("Test.java")) there.add(name.replace(".java", ""));
            }
        }
        due("tests that it names", named, there);
    }

    /** .ci/run can't run itself here; that it takes all tests is seen in its lines. */
    private static void commands(List<String> blocks) throws IOException {
        due("the command of all tests", blocks.isEmpty() ? "" : blocks.get(0), ".ci/run\n");
        Path run = Path.of(".ci/run");
        due(".ci/run can be run", Files.isExecutable(run), true);
        String lines = Files.readString(run);
        due("it takes each test of the project", lines.contains("in src/test/java/*Test.java; do"), true);
        due("it takes each shared test", lines.contains("in \"$shared\"/tests/*.java; do"), true);
    }
}
