import java.io.File;
import java.io.IOException;
import java.nio.charset.StandardCharsets;
import java.nio.file.Files;
import java.nio.file.Path;
import java.util.regex.Matcher;
import java.util.regex.Pattern;

/** Each promise of the document has a test named after it; run from the project's root. */
public final class PromisesTest {
    public static void main(String[] args) throws IOException {
        String document = Files.readString(Path.of("../shared/DOC.md"), StandardCharsets.UTF_8);
        Matcher promise = Pattern.compile("(?m)^## Promise (\\d+): (.+)$").matcher(document);
        int count = 0;
        while (promise.find()) {
            count++;
            String name = "Promise" + (count < 10 ? "0" : "") + promise.group(1);
            String last = promise.group(2).replaceAll(".* ", "");
            String called = Character.toUpperCase(last.charAt(0)) + last.substring(1);
            String[] files = new File("src/test/java").list((dir, file) -> file.startsWith(name));
            Check.eq("tests of promise " + count, files == null ? 0 : files.length, 1);
            Check.yes(name + " is of " + called, files != null && files.length == 1 && files[0].endsWith(called + "Test.java"));
        }
        Check.eq("promises", count, 36);
        Check.end();
    }
}
