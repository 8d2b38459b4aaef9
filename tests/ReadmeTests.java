import java.nio.file.Files;
import java.nio.file.Path;
import java.util.regex.Matcher;
import java.util.regex.Pattern;

/** Each call of the example in README.md answers the number that stands behind it. */
public final class ReadmeTests {
    private static final Pattern CALL = Pattern.compile("\\bx\\.(\\w+\\([^()]*\\))\\)?;\\s+// (-?\\d+)");

    public static void main(String[] args) throws Exception {
        String readme = Files.readString(Path.of("README.md"));
        String example = readme.substring(readme.indexOf("```java"), readme.indexOf("```\n", readme.indexOf("```java") + 3));
        Subject x = new Subject();
        Matcher calls = CALL.matcher(example);
        while (calls.find()) {
            Check.due("README.md: " + calls.group(1), x.ask(calls.group(1).replaceAll("(?<=\\w)L\\b", "")), Integer.parseInt(calls.group(2)));
        }
        Check.due("calls of the example that tell their answers", x.calls(), example.split("\\bx\\.", -1).length - 1);
        Check.end("ReadmeTests");
    }
}
