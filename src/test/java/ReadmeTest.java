import java.io.ByteArrayOutputStream;
import java.io.IOException;
import java.io.PrintStream;
import java.lang.reflect.Method;
import java.nio.charset.StandardCharsets;
import java.nio.file.DirectoryStream;
import java.nio.file.Files;
import java.nio.file.Path;
import java.nio.file.Paths;

/** README.md's example is the one that is compiled, and prints what is told. Argument: the class's path. */
public final class ReadmeTest {
    private static final Due DUE = new Due("ReadmeTest");

    public static void main(String[] args) throws IOException {
        String source = args.length > 0 ? args[0] : "src/main/java/InlandMails.java";
        Path project = Paths.get(source).toAbsolutePath().getParent().resolve("../../..");
        String readme = text(project.resolve("README.md"));
        String example = text(project.resolve("src/test/java/ReadmeExample.java"));
        DUE.is("README.md tells the example as it stands", block(readme, "java").equals(example), true);
        DUE.is("it prints what README.md tells", block(readme, "text").equals(printed()), true);
        names(readme, project);
        DUE.close();
    }

    private static String text(Path path) throws IOException {
        return new String(Files.readAllBytes(path), StandardCharsets.UTF_8);
    }

    private static String block(String readme, String kind) {
        String begin = "```" + kind + "\n";
        int from = readme.indexOf(begin);
        int to = readme.indexOf("```\n", from + begin.length());
        return from < 0 || to < 0 ? "" : readme.substring(from + begin.length(), to);
    }

    private static String printed() {
        PrintStream out = System.out;
        ByteArrayOutputStream bytes = new ByteArrayOutputStream();
        System.setOut(new PrintStream(bytes, true));
        ReadmeExample.main(new String[0]);
        System.setOut(out);
        return new String(bytes.toByteArray(), StandardCharsets.UTF_8).replace("\r\n", "\n");
    }

    /** Each call of the class and each test is told of. */
    private static void names(String readme, Path project) throws IOException {
        for (Method method : InlandMails.class.getMethods()) {
            if (method.getDeclaringClass() == InlandMails.class) {
                boolean told = readme.contains("`" + method.getName() + "`");
                DUE.is("README.md names the call " + method.getName(), told, true);
            }
        }
        try (DirectoryStream<Path> tests = Files.newDirectoryStream(project.resolve("src/test/java"), "*Test.java")) {
            for (Path test : tests) {
                String name = test.getFileName().toString().replace(".java", "");
                DUE.is("README.md names the test " + name, readme.contains("`" + name + "`"), true);
            }
        }
    }
}
