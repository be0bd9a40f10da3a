import java.lang.reflect.Constructor;
import java.lang.reflect.Field;
import java.lang.reflect.Method;
import java.lang.reflect.Modifier;
import java.nio.file.Files;
import java.nio.file.Path;
import java.util.ArrayList;
import java.util.Arrays;
import java.util.HashSet;
import java.util.List;
import java.util.Set;
import java.util.TreeSet;
import java.util.regex.Matcher;
import java.util.regex.Pattern;

/** The face is the document's, and the program keeps to the rules of the language that can be seen. */
public final class FaceTest {

    private static final Path PROGRAM = Path.of("src/main/java/CriticalweekPlans.java");
    private static final Path DOCUMENT = Path.of("../shared/DOC.md");

    public static void main(String[] args) throws Exception {
        faceIsTheDocuments();
        classesKeepToTheirBounds();
        sourceKeepsToTheLanguage();
        Check.close();
    }

    private static void faceIsTheDocuments() throws Exception {
        Set<String> due = new TreeSet<>();
        Pattern row = Pattern.compile("^    public (?!final class)(.*);$", Pattern.MULTILINE);
        Matcher rows = row.matcher(Files.readString(DOCUMENT));
        while (rows.find()) {
            due.add(rows.group(1));
        }
        Set<String> got = new TreeSet<>();
        for (Method method : CriticalweekPlans.class.getDeclaredMethods()) {
            if (!Modifier.isPrivate(method.getModifiers())) {
                Check.is("a method that is not private", Modifier.isPublic(method.getModifiers()), true);
                got.add(method.getReturnType().getSimpleName() + " " + told(method.getName(), method.getParameters(),
                        method.getExceptionTypes()));
            }
        }
        for (Constructor<?> made : CriticalweekPlans.class.getDeclaredConstructors()) {
            Check.is("a public constructor", Modifier.isPublic(made.getModifiers()), true);
            got.add(told("CriticalweekPlans", made.getParameters(), made.getExceptionTypes()));
        }
        Check.is("the face", withoutNames(got), withoutNames(due));
        Check.is("the methods and the constructor", got.size(), 62);
        for (Field field : CriticalweekPlans.class.getDeclaredFields()) {
            Check.isTrue("a private field " + field.getName(), Modifier.isPrivate(field.getModifiers()));
        }
    }

    private static String told(String name, java.lang.reflect.Parameter[] parameters, Class<?>[] thrown) {
        List<String> types = new ArrayList<>();
        for (java.lang.reflect.Parameter parameter : parameters) {
            types.add(parameter.getType().getSimpleName() + " x");
        }
        List<String> exceptions = new ArrayList<>();
        for (Class<?> exception : thrown) {
            exceptions.add(exception.getSimpleName());
        }
        String behind = exceptions.isEmpty() ? "" : " throws " + String.join(", ", exceptions);
        return name + "(" + String.join(", ", types) + ")" + behind;
    }

    private static Set<String> withoutNames(Set<String> rows) {
        Set<String> plain = new TreeSet<>();
        for (String each : rows) {
            plain.add(each.replaceAll("(int|char|boolean) \\w+(?=[,)])", "$1"));
        }
        return plain;
    }

    private static void classesKeepToTheirBounds() {
        Set<String> publicNames = new HashSet<>();
        for (Method method : CriticalweekPlans.class.getMethods()) {
            publicNames.add(method.getName());
        }
        List<Class<?>> all = new ArrayList<>(Arrays.asList(CriticalweekPlans.class.getDeclaredClasses()));
        all.add(CriticalweekPlans.class);
        Check.isTrue("twelve classes at most", all.size() <= 12);
        for (Class<?> each : all) {
            int fields = 0;
            for (Field field : each.getDeclaredFields()) {
                boolean isStatic = Modifier.isStatic(field.getModifiers());
                fields += isStatic ? 0 : 1;
                Check.isTrue("static is final", !isStatic || Modifier.isFinal(field.getModifiers()));
            }
            Check.isTrue("twenty fields at most in " + each.getSimpleName(), fields <= 20);
            for (Method method : each.getDeclaredMethods()) {
                boolean isFace = each == CriticalweekPlans.class && Modifier.isPublic(method.getModifiers());
                Check.isTrue("a name of its own for " + method, isFace || !publicNames.contains(method.getName()));
                Check.isTrue("seven parameters at most", method.getParameterCount() <= 7);
            }
        }
    }

    private static void sourceKeepsToTheLanguage() throws Exception {
        List<String> imports = new ArrayList<>();
        List<String> lines = Files.readAllLines(PROGRAM);
        int from = 0;
        for (int place = 0; place < lines.size(); place++) {
            String line = lines.get(place);
            if (line.startsWith("import ")) {
                imports.add(line);
            }
            if (line.matches(" {4,8}(public|private) [^=;]*[({]")) {
                from = place;
            }
            Check.isTrue("a short method at line " + place, !line.matches(" {4,8}}") || place - from <= 60
                    || lines.get(from).contains(" class "));
            Check.isTrue("printable signs", line.chars().allMatch(sign -> sign >= 32 && sign < 127));
        }
        Check.is("imports", imports, List.of("import java.util.Arrays;", "import java.util.NoSuchElementException;"));
        String code = String.join("\n", lines).replaceAll("//.*", "").replaceAll("(?s)/\\*.*?\\*/", "");
        Matcher loops = Pattern.compile("\\b(for|while) \\((.*)\\) \\{").matcher(code);
        while (loops.find()) {
            Check.isTrue("a counter against a bound: " + loops.group(), loops.group(2).matches(".* ([<>]=?|:) .*"));
        }
        String[] ruledOut = {"->", "::", "Exact\\(", "\\bfinally\\b", "\\btry\\b", "\\bcatch\\b", "\\bassert\\b",
            "\\bsynchronized\\b", "\\binstanceof\\b", "\\bSystem\\.(?!arraycopy)", "\\bpackage\\b", "\\bprotected\\b",
            "\\bObject\\b", "\\bThread\\b", "static \\{", "\" \\+", "\\+ \""};
        for (String each : ruledOut) {
            Check.isTrue("no " + each, !Pattern.compile(each).matcher(code).find());
        }
    }
}
