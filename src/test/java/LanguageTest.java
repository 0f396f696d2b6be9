import java.io.IOException;
import java.nio.file.Files;
import java.nio.file.Path;
import java.util.ArrayList;
import java.util.Arrays;
import java.util.HashMap;
import java.util.List;
import java.util.Map;
import java.util.TreeMap;
import java.util.TreeSet;
import java.util.regex.Matcher;
import java.util.regex.Pattern;

/**
 * What can be seen in the class's text of the rules of LANGUAGE.md. The class does without much that they leave, such as
 * exceptions, texts, lists and recursion; these are looked for as if they were forbidden, too: a class that comes to use
 * one says so here.
 */
public final class LanguageTest extends Checks {
    private static final int MOST_LINES = 60;
    private static final int MOST_PARAMETERS = 7;
    private static final int MOST_DEEP = 8;
    private static final int MOST_CLASSES = 12;
    private static final int MOST_FIELDS = 20;
    private static final String[] FORBIDDEN = {
        "package ", "import ", "->", "::", "try", "catch", "finally", "throw", "throws", "synchronized", "assert",
        "instanceof", "volatile", "transient", "native", "strictfp", "var", "yield", "double", "float", "\"", "'",
        "String", "StringBuilder", "Integer.valueOf", "List", "Iterator", "equals", "hashCode", "toString",
        "Thread", "Random", "Exact", "static {", "goto", "@", "protected"};
    /** The library that the class uses; each stands in rule 4. */
    private static final List<String> LIBRARY = List.of("Math.floorDiv", "Math.max", "Math.min", "Integer.bitCount",
            "System.arraycopy");
    private static final Pattern METHOD = Pattern.compile("^ +(?:public |private )(?:static )?"
            + "(?:\\w+(?:\\[\\])? )?(\\w+)\\(([^)]*)\\) \\{$");
    private static final Pattern USED = Pattern.compile("\\b([A-Z]\\w*\\.)?(\\w+)\\(");

    public static void main(String[] args) throws IOException {
        String text = Files.readString(Path.of("src/main/java/BallDrops.java"));
        String code = text.replaceAll("(?s)/\\*.*?\\*/", "").replaceAll("//[^\n]*", "");
        signs(text);
        forbidden(code);
        library(code);
        classesAndFields(code);
        loops(code);
        Map<String, List<String>> bodies = bodies(code);
        methods(bodies);
        depth(bodies);
        Due.finish();
    }

    private static void rule(int number, String what, boolean holds) {
        due("rule " + number + ": " + what, holds ? 1 : 0, 1);
    }

    private static void signs(String text) {
        rule(4, "signs are 1 to 127", text.chars().allMatch(c -> c >= 1 && c <= 127));
    }

    private static void forbidden(String code) {
        for (String word : FORBIDDEN) {
            boolean isWord = word.chars().allMatch(Character::isLetter);
            boolean stands = isWord ? Pattern.compile("\\b" + word + "\\b").matcher(code).find() : code.contains(word);
            rule(6, "no " + word, !stands);
        }
    }

    private static void library(String code) {
        Matcher m = Pattern.compile("\\b(Math|Integer|Long|System|Arrays|Character|Boolean|Object)\\b(\\.\\w+)?").matcher(code);
        while (m.find()) {
            rule(4, "library: " + m.group(), LIBRARY.contains(m.group()));
        }
    }

    private static void classesAndFields(String code) {
        int classes = 0;
        int fields = 0;
        for (String line : code.split("\n")) {
            if (line.matches(" *((public|private|static|final) )*(class|record|enum|interface) .*")) {
                rule(1, "a class inside is private and static: " + line, classes == 0
                        ? line.equals("public final class BallDrops {") : line.startsWith("    private static final class "));
                classes++;
                fields = 0;
            }
            boolean isField = line.matches(" +(public|private) [^()]*( = .*)?;");
            if (isField && line.contains("static")) {
                rule(5, "a static field is a final number: " + line,
                        line.matches("    (public|private) static final (int|long) .*;"));
            } else if (isField) {
                fields++;
                rule(1, "a field is private: " + line, line.matches(" +private .*"));
                rule(11, "fields of a class", fields <= MOST_FIELDS);
            }
        }
        rule(11, "classes", classes > 0 && classes <= MOST_CLASSES);
    }

    /** Each loop counts by one against a bound, and its body leaves the counter alone. */
    private static void loops(String code) {
        rule(9, "no while, no do", !Pattern.compile("\\b(while|do)\\b").matcher(code).find());
        int loops = 0;
        Matcher m = Pattern.compile("(?m)^( +)for \\((.*)\\) \\{$([\\s\\S]*?)^\\1\\}").matcher(code);
        for (int from = 0; m.find(from); from = m.start() + 1) {
            loops++;
            Matcher head = Pattern.compile("int (\\w+) = [^;]+; \\1 (<|>=) [^;]+; \\1(\\+\\+|--)").matcher(m.group(2));
            boolean counts = head.matches() && head.group(2).equals("<") == head.group(3).equals("++");
            rule(9, "a loop counts against a bound: " + m.group(2), counts);
            if (counts) {
                String changed = "\\b" + head.group(1) + "(\\+\\+|--| [-+*/%]?= )";
                rule(9, "and leaves its counter alone: " + m.group(2), !Pattern.compile(changed).matcher(m.group(3)).find());
                rule(12, "no object is made in a loop but in a constructor", !m.group(3).contains("new ")
                        || m.group(2).contains("SHIPS"));
            }
        }
        Matcher all = Pattern.compile("\\bfor \\(").matcher(code);
        due("loops looked at", loops, all.results().count());
    }

    /** The lines of each method, by its name; the first is its head. */
    private static Map<String, List<String>> bodies(String code) {
        Map<String, List<String>> bodies = new TreeMap<>();
        List<String> open = null;
        String close = "";
        // a head over two lines is one
        for (String line : code.replaceAll(",\n +", ", ").split("\n")) {
            Matcher m = METHOD.matcher(line);
            if (m.matches()) {
                open = new ArrayList<>();
                close = line.replaceAll("\\S.*", "") + "}";
                rule(1, "a name for one method alone: " + m.group(1), bodies.put(m.group(1), open) == null);
            }
            if (open != null) {
                open.add(line);
                open = line.equals(close) ? null : open;
            }
        }
        return bodies;
    }

    private static void methods(Map<String, List<String>> bodies) {
        int found = 0;
        for (Map.Entry<String, List<String>> body : bodies.entrySet()) {
            found++;
            String head = body.getValue().get(0);
            Matcher m = METHOD.matcher(head);
            rule(11, "a head that can be read: " + head, m.matches());
            int parameters = m.group(2).isEmpty() ? 0 : m.group(2).split(",").length;
            rule(11, "parameters of " + body.getKey(), parameters <= MOST_PARAMETERS);
            rule(11, "lines of " + body.getKey(), body.getValue().size() <= MOST_LINES);
        }
        due("methods and constructors looked at", found, written());
    }

    private static int written() {
        int written = 0;
        for (Class<?> c : new Class<?>[] {BallDrops.class, BallDrops.class.getDeclaredClasses()[0],
            BallDrops.class.getDeclaredClasses()[1]}) {
            written += (int) Arrays.stream(c.getDeclaredMethods()).filter(m -> !m.isSynthetic()).count();
        }
        // the constructors of BallDrops and Ship; Line has none of its own
        return written + 2;
    }

    private static void depth(Map<String, List<String>> bodies) {
        Map<String, TreeSet<String>> calls = new HashMap<>();
        for (Map.Entry<String, List<String>> body : bodies.entrySet()) {
            TreeSet<String> called = new TreeSet<>();
            for (String line : body.getValue().subList(1, body.getValue().size())) {
                Matcher m = USED.matcher(line);
                while (m.find()) {
                    String name = m.group(1) == null ? m.group(2) : m.group(1) + m.group(2);
                    if (bodies.containsKey(name) || LIBRARY.contains(name)) {
                        called.add(name);
                    }
                }
            }
            calls.put(body.getKey(), called);
        }
        for (String name : calls.keySet()) {
            int deep = deep(name, calls, 0);
            rule(8, "no recursion from " + name, deep <= calls.size());
            rule(11, "calls from " + name + " are " + deep + " deep", deep <= MOST_DEEP);
        }
    }

    /** How many calls stand open at most; more than there are methods, if one comes to call itself. */
    private static int deep(String name, Map<String, TreeSet<String>> calls, int above) {
        int deepest = 0;
        if (above <= calls.size() && calls.containsKey(name)) {
            for (String called : calls.get(name)) {
                deepest = Math.max(deepest, deep(called, calls, above + 1));
            }
        }
        return 1 + deepest;
    }
}
