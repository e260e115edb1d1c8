import java.io.ByteArrayOutputStream;
import java.io.IOException;
import java.io.PrintStream;
import java.lang.reflect.Method;
import java.net.URL;
import java.net.URLClassLoader;
import java.nio.file.DirectoryStream;
import java.nio.file.Files;
import java.nio.file.Path;
import java.util.ArrayList;
import java.util.List;
import java.util.regex.Matcher;
import java.util.regex.Pattern;
import javax.tools.ToolProvider;

/**
 * README.md, in the directory from which this is run: what it shows as an example compiles and answers
 * as it says, it names each method and each test, and it says for how many calls an object may be used.
 */
public final class ReadmeTest {
    private static final Path README = Path.of("README.md");
    private static final Path CLASSES = Path.of("build", "readme");
    private static final String MOST_CALLS =
            "An object is used for at most 512 calls after it has been made; what later calls answer is free.";
    private static final Pattern BLOCK = Pattern.compile("(?ms)^```(\\w+)\n(.*?)^```$");
    private static final Pattern LINE = Pattern.compile("(?:\\w+ (\\w+) = )?(.*);(?:\\s*// ([^,]*)(?:,.*)?)?");

    public static void main(String[] args) throws Exception {
        String readme = Files.readString(README);
        Check.same("README.md tells the calls of an object", readme.contains(MOST_CALLS), true);
        program(blocks(readme, "java").get(0), blocks(readme, "text").get(0));
        lines(blocks(readme, "java"));
        namesMethods(readme);
        namesTests(readme);
        namesFiles(String.join("", blocks(readme, "sh")));
        Check.end();
    }

    private static List<String> blocks(String readme, String language) {
        List<String> found = new ArrayList<>();
        Matcher matcher = BLOCK.matcher(readme);
        while (matcher.find()) {
            if (matcher.group(1).equals(language)) {
                found.add(matcher.group(2));
            }
        }
        return found;
    }

    /** The first example is a whole program, and the text is what it prints. */
    private static void program(String source, String due) throws Exception {
        Class<?> first = compiled("First", source);
        Method main = first.getMethod("main", String[].class);
        ByteArrayOutputStream printed = new ByteArrayOutputStream();
        PrintStream screen = System.out;
        System.setOut(new PrintStream(printed, true));
        try {
            main.invoke(null, (Object) new String[0]);
        } finally {
            System.setOut(screen);
        }
        Check.same("First prints", printed.toString().replace(System.lineSeparator(), "\n"), due);
    }

    /** The other ones are the lines of one program; it is compiled as it stands, and with a check for each line. */
    private static void lines(List<String> blocks) throws Exception {
        StringBuilder shown = new StringBuilder();
        StringBuilder checks = new StringBuilder();
        int told = 0;
        for (String block : blocks.subList(1, blocks.size())) {
            shown.append(block);
            for (String line : block.split("\n")) {
                Matcher matcher = LINE.matcher(line);
                Check.same("a line of README.md is a statement, " + line, matcher.matches(), true);
                checks.append(checked(matcher, line));
                told += matcher.group(3) != null ? 1 : 0;
            }
        }
        Check.same("README.md has lines with answers", told > 40, true);
        Class<?> lines = compiled("Lines", "import java.util.*;\npublic final class Lines {\n"
                + "static void shown() {\n" + shown + "}\n"
                + "static void same(String line, Object got, String due, List<String> wrong) {\n"
                + "if (!String.valueOf(got).equals(due)) { wrong.add(line + \" .. but \" + got); } }\n"
                + "public static List<String> checks() {\nList<String> wrong = new ArrayList<>();\n"
                + checks + "return wrong;\n}\n}\n");
        Object wrong = lines.getMethod("checks").invoke(null);
        Check.same("the lines of README.md that answer something else", wrong, List.of());
    }

    private static String checked(Matcher line, String whole) {
        String quoted = "\"" + whole.replace("\"", "\\\"") + "\"";
        String answer = line.group(3);
        if (answer == null) {
            return whole + "\n";
        }
        if (answer.startsWith("throws ")) {
            String due = "\"" + answer.substring("throws ".length()) + "\"";
            return "try { " + line.group(2) + "; same(" + quoted + ", \"nothing\", " + due + ", wrong); }\n"
                    + "catch (RuntimeException e) { same(" + quoted + ", e.getClass().getSimpleName(), "
                    + due + ", wrong); }\n";
        }
        String declared = line.group(1) == null ? "" : whole + "\n";
        String asked = line.group(1) == null ? line.group(2) : line.group(1);
        return declared + "same(" + quoted + ", " + asked + ", \"" + answer + "\", wrong);\n";
    }

    private static Class<?> compiled(String name, String source) throws IOException, ClassNotFoundException {
        Files.createDirectories(CLASSES);
        Path file = CLASSES.resolve(name + ".java");
        Files.writeString(file, source);
        String path = System.getProperty("java.class.path");
        int code = ToolProvider.getSystemJavaCompiler().run(null, null, null,
                "-encoding", "UTF-8", "-cp", path, "-d", CLASSES.toString(), file.toString());
        Check.same(file + " compiles with", code, 0);
        URLClassLoader loader = new URLClassLoader(new URL[] {CLASSES.toUri().toURL()},
                ReadmeTest.class.getClassLoader());
        return loader.loadClass(name);
    }

    private static void namesMethods(String readme) {
        for (Method m : HexCampaign.class.getDeclaredMethods()) {
            if (java.lang.reflect.Modifier.isPublic(m.getModifiers())) {
                Check.same("README.md names " + m.getName(), readme.contains("`" + m.getName() + "("), true);
            }
        }
    }

    private static void namesTests(String readme) throws IOException {
        try (DirectoryStream<Path> tests = Files.newDirectoryStream(Path.of("src", "test", "java"))) {
            for (Path test : tests) {
                String name = test.getFileName().toString().replace(".java", "");
                Check.same("README.md names " + name, readme.contains("`" + name + "`"), true);
            }
        }
    }

    /** The files, and the tests that are run alone. */
    private static void namesFiles(String commands) {
        for (String word : commands.split("\\s+")) {
            if (word.endsWith(".java") && !word.contains("*")) {
                Check.same(word + " is there", Files.exists(Path.of(word)), true);
            }
        }
        for (String line : commands.split("\n")) {
            if (line.startsWith("java ")) {
                String name = line.split(" ")[3];
                Check.same(name + " is a test", Files.exists(Path.of("src", "test", "java", name + ".java"))
                        || Files.exists(Path.of("..", "shared", "tests", name + ".java")), true);
            }
        }
    }
}
