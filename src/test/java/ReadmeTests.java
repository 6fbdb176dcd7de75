import java.io.ByteArrayOutputStream;
import java.io.IOException;
import java.io.PrintStream;
import java.nio.charset.StandardCharsets;
import java.nio.file.Files;
import java.nio.file.Path;
import java.util.regex.Matcher;
import java.util.regex.Pattern;

/** What README.md shows is so: its program is Example.java, and tells what README.md says that it tells. */
public final class ReadmeTests {
    public static void main(String[] args) throws IOException {
        String readme = Files.readString(Path.of("README.md"), StandardCharsets.UTF_8);
        String source = Files.readString(Path.of("src/test/java/Example.java"), StandardCharsets.UTF_8);
        Check.due("the program of README.md", block(readme, "java"), source);
        Check.due("what it tells", block(readme, "text"), printed());
        for (String test : new String[] {"PromiseTests", "EdgeTests", "RefusedTests", "ModelTests", "CrossTests", "NeverThrowsTests", "FaceTests"}) {
            Check.due("README.md names " + test, readme.contains("`" + test + "`"), true);
            Check.due(test + " is there", Files.exists(Path.of("src/test/java/" + test + ".java")), true);
        }
        Check.end("ReadmeTests");
    }

    private static String block(String readme, String kind) {
        Matcher block = Pattern.compile("```" + kind + "\n(.*?)```\n", Pattern.DOTALL).matcher(readme);
        return block.find() ? block.group(1) : "no such block";
    }

    private static String printed() {
        PrintStream screen = System.out;
        ByteArrayOutputStream bytes = new ByteArrayOutputStream();
        System.setOut(new PrintStream(bytes, true, StandardCharsets.UTF_8));
        Example.main(new String[0]);
        System.setOut(screen);
        return bytes.toString(StandardCharsets.UTF_8).replace(System.lineSeparator(), "\n");
    }
}
