import java.io.ByteArrayOutputStream;
import java.io.IOException;
import java.io.PrintStream;
import java.net.URL;
import java.net.URLClassLoader;
import java.nio.file.Files;
import java.nio.file.Path;
import java.util.ArrayList;
import java.util.List;
import javax.tools.JavaCompiler;
import javax.tools.ToolProvider;

/** The example in README.md compiles, and its calls answer as the comments behind them say. */
final class ReadmeTest {
    private static final String PRINT = "System.out.println(";
    private static final String COMMENT = "// ";

    public static void main(String[] arguments) throws IOException, ReflectiveOperationException {
        Check check = new Check();
        List<String> readme = Files.readAllLines(Path.of("README.md"));
        List<String> example = exampleIn(readme);
        List<String> answers = answersTold(example);
        check.same("the example tells answers", answers.size() > 1, true);
        check.same("what the example prints", run(example), answers);
        check.same("how to compile it", isToldIn(readme,
                "javac -d out src/main/java/UnionOffice.java Example.java"), true);
        check.same("how to run it", isToldIn(readme, "java -cp out Example"), true);
        check.same("how to run the tests", isToldIn(readme, "bash .ci/run"), true);
        check.end("ReadmeTest");
    }

    private static boolean isToldIn(List<String> readme, String command) {
        return readme.contains("    " + command);
    }

    private static List<String> exampleIn(List<String> readme) {
        int begin = readme.indexOf("```java") + 1;
        int length = readme.subList(begin, readme.size()).indexOf("```");
        return readme.subList(begin, begin + length);
    }

    /** What stands behind each printed call, up to a colon: what comes there explains it. */
    private static List<String> answersTold(List<String> example) {
        List<String> told = new ArrayList<>();
        for (String line : example) {
            if (line.contains(PRINT)) {
                int comment = line.indexOf(COMMENT);
                told.add(comment < 0 ? "no answer" : line.substring(comment + COMMENT.length()).split(":")[0]);
            }
        }
        return told;
    }

    private static List<String> run(List<String> example) throws IOException, ReflectiveOperationException {
        Path room = Files.createTempDirectory("readme");
        Path source = room.resolve("Example.java");
        try {
            Files.write(source, example);
            JavaCompiler compiler = ToolProvider.getSystemJavaCompiler();
            int refused = compiler.run(null, null, null, "-cp", System.getProperty("java.class.path"),
                    "-d", room.toString(), source.toString());
            return refused == 0 ? linesPrintedBy(room) : List.of("it does not compile");
        } finally {
            Files.deleteIfExists(room.resolve("Example.class"));
            Files.deleteIfExists(source);
            Files.delete(room);
        }
    }

    private static List<String> linesPrintedBy(Path room) throws IOException, ReflectiveOperationException {
        PrintStream before = System.out;
        ByteArrayOutputStream printed = new ByteArrayOutputStream();
        URL[] rooms = {room.toUri().toURL()};
        try (URLClassLoader loader = new URLClassLoader(rooms, ReadmeTest.class.getClassLoader());
                PrintStream caught = new PrintStream(printed)) {
            System.setOut(caught);
            Class<?> example = loader.loadClass("Example");
            example.getMethod("main", String[].class).invoke(null, (Object) new String[0]);
        } finally {
            System.setOut(before);
        }
        return printed.toString().lines().toList();
    }
}
