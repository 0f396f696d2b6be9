import java.io.IOException;
import java.lang.reflect.InvocationTargetException;
import java.lang.reflect.Method;
import java.nio.file.Files;
import java.nio.file.Path;
import java.util.ArrayList;
import java.util.Arrays;
import java.util.HashMap;
import java.util.List;
import java.util.Map;
import java.util.TreeSet;
import java.util.function.Consumer;
import java.util.regex.Matcher;
import java.util.regex.Pattern;

/** What README.md says: its example, its constants, its calls with what they take and refuse, its tests. */
public final class ReadmeTest extends Checks {
    private static final Pattern EXAMPLE = Pattern.compile("(?:int (\\w+) = )?x\\.(\\w+)\\((.*?)\\); +// (.*?):.*");
    private static final Pattern CONSTANT = Pattern.compile("\\| `(\\w+)` \\| (-\\d+) \\|.*");
    private static final Pattern CALL = Pattern.compile("\\| `(\\w+ (\\w+)\\((.*?)\\))` \\|(.*?)\\|.*?\\| (.*?) \\|");
    private static final Pattern BOUNDS = Pattern.compile("`(\\w+)` (-?\\d+) to (-?\\d+)");
    /** The bounds that the page tells once for all calls; of ships there are two in each scene but one. */
    private static final Map<String, int[]> PLACES = Map.of("day", new int[] {0, 19}, "ship", new int[] {0, 1},
            "clock", new int[] {0, 2}, "port", new int[] {0, 3});
    /** A number of each name that is taken, where it is not 0. */
    private static final Map<String, Integer> USUAL = Map.of("greatest", 50, "how", 2, "v", 1);
    private static final List<Consumer<BallDrops>> SCENES = List.of(Scenes::full, Scenes::noRoomForStars,
            Scenes::noRoomForShips, Scenes::noRoomForNotes, ReadmeTest::noneTrusted, ReadmeTest::toldNothing);
    private static final String[] REFUSALS = {"UNKNOWN", "OUTSIDE", "STATE", "FULL", "NO"};

    /** A row of the page: the method, its numbers' names, what they take, what is added to a refusal, the refusals. */
    private record Call(Method method, List<String> names, String takes, String added, String refuses) { }

    public static void main(String[] args) throws IOException, ReflectiveOperationException {
        List<String> page = Files.readAllLines(Path.of("README.md"));
        exampleAnswersAsTold(page);
        constantsAreAsTold(page);
        List<String> told = new ArrayList<>();
        for (String line : page) {
            Matcher row = CALL.matcher(line);
            if (row.matches()) {
                told.add(row.group(1));
                Call call = call(row);
                takesWhatIsTold(call);
                refusesAsTold(call);
            }
        }
        allCallsAreTold(told);
        allTestsAreTold(String.join("\n", page));
        Due.finish();
    }

    private static void noneTrusted(BallDrops x) {
        Scenes.full(x);
        faults(x, 9, 9, 9);
    }

    private static void toldNothing(BallDrops x) {
        x.ship();
        x.ship();
    }

    // ---- the example and the constants

    private static void exampleAnswersAsTold(List<String> page) throws ReflectiveOperationException {
        BallDrops x = new BallDrops();
        Map<String, Long> named = new HashMap<>();
        int commented = 0;
        int asked = 0;
        for (String line : page) {
            commented += line.contains("x.") && line.contains("//") ? 1 : 0;
            Matcher example = EXAMPLE.matcher(line);
            if (example.matches()) {
                asked++;
                long got = ask(x, method(example.group(2)), numbers(example.group(3), named));
                due("the example's " + line, got, answer(example.group(4)));
                if (example.group(1) != null) {
                    named.put(example.group(1), got);
                }
            }
        }
        due("calls of the example", asked, commented);
        due("there are some", asked > 20 ? 1 : 0, 1);
    }

    private static Method method(String name) {
        for (Method m : BallDrops.class.getDeclaredMethods()) {
            if (m.getName().equals(name)) {
                return m;
            }
        }
        throw new IllegalArgumentException("README.md names no method of the class: " + name);
    }

    private static long ask(BallDrops x, Method m, Object... numbers) {
        try {
            return ((Number) m.invoke(x, numbers)).longValue();
        } catch (IllegalAccessException | InvocationTargetException e) {
            throw new IllegalStateException(m.getName() + Arrays.toString(numbers), e);
        }
    }

    private static Object[] numbers(String list, Map<String, Long> named) {
        String[] texts = list.isEmpty() ? new String[0] : list.split(", ");
        Object[] numbers = new Object[texts.length];
        for (int i = 0; i < texts.length; i++) {
            if (texts[i].equals("true") || texts[i].equals("false")) {
                numbers[i] = Boolean.valueOf(texts[i]);
            } else {
                numbers[i] = named.containsKey(texts[i]) ? named.get(texts[i]).intValue() : Integer.parseInt(texts[i]);
            }
        }
        return numbers;
    }

    private static long answer(String text) throws ReflectiveOperationException {
        long sum = 0;
        for (String part : text.split(" \\+ ")) {
            sum += part.startsWith("BallDrops.") ? constant(part.substring(10)) : Long.parseLong(part);
        }
        return sum;
    }

    private static long constant(String name) throws ReflectiveOperationException {
        return ((Number) BallDrops.class.getField(name).get(null)).longValue();
    }

    private static void constantsAreAsTold(List<String> page) throws ReflectiveOperationException {
        int told = 0;
        for (String line : page) {
            Matcher c = CONSTANT.matcher(line);
            if (c.matches()) {
                told++;
                due("the page's " + c.group(1), Long.parseLong(c.group(2)), constant(c.group(1)));
            }
        }
        due("constants told", told, BallDrops.class.getFields().length);
    }

    // ---- the calls

    private static Call call(Matcher row) {
        List<String> names = new ArrayList<>();
        for (String typed : row.group(3).isEmpty() ? new String[0] : row.group(3).split(", ")) {
            names.add(typed.substring(typed.indexOf(' ') + 1));
        }
        String refuses = row.group(5);
        String added = refuses.startsWith("GONE + ") || refuses.startsWith("LOST + ") ? refuses.substring(0, 7) : "";
        return new Call(method(row.group(2)), names, row.group(4), added, refuses.substring(added.length()));
    }

    private static void allCallsAreTold(List<String> told) {
        List<String> unnamed = new ArrayList<>();
        for (String call : told) {
            unnamed.add(call.replaceAll("(int|boolean) \\w+([,)])", "$1$2"));
        }
        List<String> open = new ArrayList<>();
        for (Method m : BallDrops.class.getMethods()) {
            if (m.getDeclaringClass() == BallDrops.class) {
                String types = Arrays.toString(m.getParameterTypes());
                open.add(m.getReturnType() + " " + m.getName() + "(" + types.substring(1, types.length() - 1) + ")");
            }
        }
        unnamed.sort(null);
        open.sort(null);
        due("calls are told as " + unnamed + ", due is " + open, unnamed.equals(open) ? 1 : 0, 1);
    }

    /** The least and the greatest of each number are taken, those next beyond them are refused. */
    private static void takesWhatIsTold(Call call) {
        for (int i = 0; i < call.names.size(); i++) {
            if (isNumber(call, i)) {
                String name = call.names.get(i);
                String refusal = PLACES.containsKey(name) ? "UNKNOWN" : "OUTSIDE";
                int[] bounds = bounds(call, name);
                for (int v : new int[] {bounds[0] - 1, bounds[0], bounds[1], bounds[1] + 1}) {
                    String got = refusal(call, Scenes::full, usualBut(call, i, v));
                    due(call.method.getName() + ", " + name + " " + v + " is refused",
                            got.equals(refusal) ? 1 : 0, v < bounds[0] || v > bounds[1] ? 1 : 0);
                }
            }
        }
    }

    private static boolean isNumber(Call call, int i) {
        return call.method.getParameterTypes()[i] == int.class;
    }

    private static int[] bounds(Call call, String name) {
        if (PLACES.containsKey(name)) {
            return PLACES.get(name);
        }
        Matcher b = BOUNDS.matcher(call.takes);
        while (b.find()) {
            if (b.group(1).equals(name)) {
                return new int[] {Integer.parseInt(b.group(2)), Integer.parseInt(b.group(3))};
            }
        }
        throw new IllegalArgumentException("README.md tells no bounds of " + name + " for " + call);
    }

    private static Object[] usualBut(Call call, int at, int v) {
        Object[] numbers = new Object[call.names.size()];
        for (int i = 0; i < numbers.length; i++) {
            if (isNumber(call, i)) {
                numbers[i] = i == at ? v : USUAL.getOrDefault(call.names.get(i), 0);
            } else {
                numbers[i] = true;
            }
        }
        return numbers;
    }

    /** The refusals that are told are those that the call ever answers in the scenes. */
    private static void refusesAsTold(Call call) {
        TreeSet<String> had = new TreeSet<>();
        for (Consumer<BallDrops> scene : SCENES) {
            had.add(refusal(call, scene, usualBut(call, -1, 0)));
            for (int i = 0; i < call.names.size(); i++) {
                if (isNumber(call, i)) {
                    int[] bounds = bounds(call, call.names.get(i));
                    int step = bounds[1] > 19 ? bounds[1] - bounds[0] : 1;
                    for (int v = bounds[0]; v <= bounds[1]; v += step) {
                        had.add(refusal(call, scene, usualBut(call, i, v)));
                    }
                    had.add(refusal(call, scene, usualBut(call, i, MAX)));
                }
            }
        }
        had.remove("");
        TreeSet<String> told = new TreeSet<>(Arrays.asList(call.refuses.split(", ")));
        due(call.method.getName() + " refuses with " + had + ", told is " + told, had.equals(told) ? 1 : 0, 1);
    }

    /** Empty if it answers. */
    private static String refusal(Call call, Consumer<BallDrops> before, Object[] numbers) {
        BallDrops x = new BallDrops();
        before.accept(x);
        long answer = ask(x, call.method, numbers);
        if (call.added.equals("GONE + ")) {
            answer -= BallDrops.GONE;
        } else if (call.added.equals("LOST + ")) {
            answer -= BallDrops.LOST;
        }
        return answer < 0 && answer >= -REFUSALS.length ? REFUSALS[(int) (-1 - answer)] : "";
    }

    // ---- the tests

    private static void allTestsAreTold(String page) throws IOException {
        TreeSet<String> there = new TreeSet<>();
        for (String file : Path.of("src/test/java").toFile().list()) {
            there.add(file.replace(".java", ""));
        }
        due("there are tests", there.contains("ReadmeTest") ? 1 : 0, 1);
        for (String name : there) {
            due("the page tells of " + name, page.contains("`" + name + "`") ? 1 : 0, 1);
        }
        Matcher test = Pattern.compile("`(\\w+Test)`").matcher(page);
        while (test.find()) {
            due("there is " + test.group(1), there.contains(test.group(1)) ? 1 : 0, 1);
        }
    }
}
