import java.io.ByteArrayOutputStream;
import java.io.IOException;
import java.io.PrintStream;
import java.lang.reflect.Method;
import java.lang.reflect.Modifier;
import java.net.URL;
import java.net.URLClassLoader;
import java.nio.file.Files;
import java.nio.file.Path;
import java.util.ArrayList;
import java.util.Comparator;
import java.util.List;
import java.util.regex.Matcher;
import java.util.regex.Pattern;
import java.util.stream.Stream;
import javax.tools.ToolProvider;

/** What README.md says of calls is so when it is tried, and nothing is left out there. */
public final class ReadmeTest {

    private static final Pattern BLOCK = Pattern.compile("^```(\\w+)\\n(.*?)^```$",
            Pattern.MULTILINE | Pattern.DOTALL);
    private static final Pattern ROW = Pattern.compile("((?:plans|typed|new CriticalweekPlans\\(\\))\\..*\\)); +// (.*)");
    private static final Pattern ANSWER = Pattern.compile("(throws \\w+|'.'|-?[\\w.]+)(?:,.*)?");

    private static String page;
    private static Path place;

    public static void main(String[] args) throws Exception {
        page = Files.readString(Path.of("README.md"));
        place = Files.createTempDirectory("readme");
        try {
            theProgramPrintsWhatIsSaid();
            theRowsAnswerWhatIsSaid();
            eachCallAndEachTestIsThere();
        } finally {
            takeAway();
        }
        Check.close();
    }

    private static void theProgramPrintsWhatIsSaid() throws Exception {
        List<String> commands = blocks("sh").get(0).lines().toList();
        Check.is("the second command", commands.get(1), "java -cp out Week");
        String[] words = commands.get(0).split(" ");
        Check.is("the first command", words[0], "javac");
        String[] arguments = new String[words.length - 1];
        for (int word = 1; word < words.length; word++) {
            boolean isHere = words[word].equals("out") || words[word].equals("Week.java");
            arguments[word - 1] = isHere ? place.resolve(words[word]).toString() : words[word];
        }
        Files.writeString(place.resolve("Week.java"), blocks("java").get(0));
        compile(arguments);
        Check.is("what the program prints", printedBy("Week"), blocks("text").get(0));
    }

    /** The rows become a program that prints what each call answers. */
    private static void theRowsAnswerWhatIsSaid() throws Exception {
        StringBuilder program = new StringBuilder("public class Rows {\n    interface Call { Object ask(); }\n"
                + "    static void tell(Call call) {\n        Object got;\n        try {\n"
                + "            got = call.ask();\n        } catch (RuntimeException thrown) {\n"
                + "            got = \"throws \" + thrown.getClass().getSimpleName();\n        }\n"
                + "        System.out.println(got instanceof Character ? \"'\" + got + \"'\" : got);\n    }\n"
                + "    public static void main(String[] args) {\n");
        List<String> rows = new ArrayList<>();
        List<String> due = new ArrayList<>();
        List<String> all = blocks("java");
        for (String line : String.join("", all.subList(1, all.size())).lines().toList()) {
            Matcher row = ROW.matcher(line);
            if (!row.matches()) {
                Check.isTrue("no answer in a row of another form: " + line, !line.contains("//"));
                program.append(line).append('\n');
                continue;
            }
            Matcher answer = ANSWER.matcher(row.group(2));
            Check.isTrue("an answer in: " + line, answer.matches());
            program.append("tell(() -> ").append(row.group(1)).append(");\n");
            rows.add(row.group(1));
            due.add(answer.matches() ? answer.group(1) : "");
        }
        Files.writeString(place.resolve("Rows.java"), program.append("    }\n}\n"));
        compile("-d", place.resolve("out").toString(), "src/main/java/CriticalweekPlans.java",
                place.resolve("Rows.java").toString());
        List<String> got = printedBy("Rows").lines().toList();
        Check.is("the number of answers", got.size(), due.size());
        for (int row = 0; row < Math.min(got.size(), due.size()); row++) {
            Check.is(rows.get(row), got.get(row), due.get(row));
        }
    }

    private static void eachCallAndEachTestIsThere() throws IOException {
        String calls = String.join("", blocks("java"));
        for (Method method : CriticalweekPlans.class.getDeclaredMethods()) {
            if (Modifier.isPublic(method.getModifiers())) {
                Check.isTrue("a row for " + method.getName(), calls.contains("." + method.getName() + "("));
                for (Class<?> thrown : method.getExceptionTypes()) {
                    Check.isTrue("a row for " + thrown, page.contains("| `" + thrown.getSimpleName() + "` |"));
                }
            }
        }
        try (Stream<Path> files = Files.list(Path.of("src/test/java"))) {
            for (Path file : files.toList()) {
                String name = file.getFileName().toString().replace(".java", "");
                Check.isTrue("the test " + name, !name.endsWith("Test") || page.contains("`" + name + "`"));
            }
        }
        Check.isTrue("the bound of calls", page.contains("at most 512 calls"));
        Check.isTrue("the run of all tests", Files.isExecutable(Path.of(".ci/run")));
    }

    private static List<String> blocks(String kind) {
        List<String> found = new ArrayList<>();
        Matcher block = BLOCK.matcher(page);
        while (block.find()) {
            if (block.group(1).equals(kind)) {
                found.add(block.group(2));
            }
        }
        return found;
    }

    private static void compile(String... arguments) {
        Check.is("the compiler's answer", ToolProvider.getSystemJavaCompiler().run(null, null, null, arguments), 0);
    }

    private static String printedBy(String name) throws Exception {
        PrintStream before = System.out;
        ByteArrayOutputStream printed = new ByteArrayOutputStream();
        URL[] at = {place.resolve("out").toUri().toURL()};
        try (URLClassLoader loader = new URLClassLoader(at, ClassLoader.getPlatformClassLoader())) {
            Method main = loader.loadClass(name).getMethod("main", String[].class);
            System.setOut(new PrintStream(printed, true));
            main.invoke(null, (Object) new String[0]);
        } finally {
            System.setOut(before);
        }
        return printed.toString().replace(System.lineSeparator(), "\n");
    }

    private static void takeAway() throws IOException {
        try (Stream<Path> files = Files.walk(place)) {
            for (Path file : files.sorted(Comparator.reverseOrder()).toList()) {
                Files.delete(file);
            }
        }
    }
}
