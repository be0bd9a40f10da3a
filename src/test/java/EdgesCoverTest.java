import java.io.IOException;
import java.lang.reflect.Method;
import java.nio.file.DirectoryStream;
import java.nio.file.Files;
import java.nio.file.Path;
import java.util.Map;
import java.util.TreeMap;

/** Each promise of the document has tests of its edges, told by their names. */
public final class EdgesCoverTest {

    private static final int PROMISES = 62;

    public static void main(String[] args) throws IOException, ClassNotFoundException {
        Map<Integer, Integer> tests = new TreeMap<>();
        try (DirectoryStream<Path> files = Files.newDirectoryStream(Path.of("src/test/java"), "*EdgesTest.java")) {
            for (Path file : files) {
                count(Class.forName(file.getFileName().toString().replace(".java", "")), tests);
            }
        }
        for (int promise = 1; promise <= PROMISES; promise++) {
            Check.promise(promise);
            Check.isTrue("a test of its edges", tests.containsKey(promise));
        }
        Check.close();
    }

    private static void count(Class<?> ofTests, Map<Integer, Integer> tests) {
        for (Method method : ofTests.getDeclaredMethods()) {
            if (method.getName().matches("promise\\d\\d_\\w+")) {
                tests.merge(Integer.parseInt(method.getName().substring(7, 9)), 1, Integer::sum);
            }
        }
    }
}
