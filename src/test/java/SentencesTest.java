import java.io.IOException;
import java.nio.file.Files;
import java.nio.file.Path;
import java.util.regex.Matcher;
import java.util.regex.Pattern;

/** src/test/SENTENCES.md names tests that there are and that are run, and no promise goes without. */
public final class SentencesTest extends Checks {
    private static final Pattern NAMED = Pattern.compile("`(\\w+Test)(?:\\.(\\w+))?`");
    private static final Pattern PROMISE = Pattern.compile("(?m)^\\| (\\d+) \\S+: .*\\|(.*)\\|$");

    public static void main(String[] args) throws IOException {
        String page = Files.readString(Path.of("src/test/SENTENCES.md"));
        Matcher named = NAMED.matcher(page);
        int tests = 0;
        while (named.find()) {
            tests++;
            isRun(named.group(1), named.group(2));
        }
        due("tests are named", tests > 100 ? 1 : 0, 1);
        Matcher promise = PROMISE.matcher(page);
        for (int p = 1; p <= 32; p++) {
            boolean stands = promise.find() && promise.group(1).equals("" + p);
            due("promise " + p + " is told and tested", stands && NAMED.matcher(promise.group(2)).find() ? 1 : 0, 1);
        }
        Due.finish();
    }

    private static void isRun(String test, String method) throws IOException {
        Path file = Path.of("src/test/java/" + test + ".java");
        due("there is " + file, Files.exists(file) ? 1 : 0, 1);
        if (method != null && Files.exists(file)) {
            String text = Files.readString(file);
            due("there is " + test + "." + method, text.contains("private static void " + method + "(") ? 1 : 0, 1);
            String main = text.substring(text.indexOf("void main("), text.indexOf("Due.finish();"));
            due(test + "." + method + " is run", main.contains(" " + method + "(") ? 1 : 0, 1);
        }
    }
}
