import java.io.IOException;
import java.lang.reflect.Field;
import java.lang.reflect.Member;
import java.lang.reflect.Method;
import java.lang.reflect.Modifier;
import java.nio.file.Files;
import java.nio.file.Path;
import java.util.ArrayList;
import java.util.Arrays;
import java.util.List;

/** The public face: the constants, the constructor and every method of the document, and nothing else. */
public final class FaceTest {
    private static final String[] METHODS = {
        "int star(int, int)", "int care(int)", "int off(int, int)", "int rate(int)", "int slow(int, int, int)",
        "int slip(int, int)", "int back(int, boolean)", "int late(int, int)", "int ship()",
        "int set(int, int, int, int, int, int)", "int meet(int, int, int, int, int)", "int strike(int)",
        "int saw(int, int, boolean)", "int clock(int, int, int, int)", "int warm(int, int)", "int jumped(int, int)",
        "int ahead(int, int, int, int)", "int gains(int, int, int)", "int place(int, int, int, int, int)",
        "int reads(int, int, int, int, int)", "int weight(int, int)", "long odds(int, int, int)", "int best(int)",
        "int landfall(int, int)", "int suspect(int)", "int worst(int)", "int slipped(int, int)", "int ask(int)",
        "int carry(int, int, int, int, int)", "int port(int, int)", "int told(int)"};
    private static final String[] CONSTANTS = {
        "int NONE", "int UNKNOWN", "int OUTSIDE", "int STATE", "int FULL", "int NO", "int GONE", "long LOST"};

    /** What stands ahead of which calls, by the number of the first of them. */
    private static final Object[][] HEADINGS = {{0, "---- 1 the observatory"}, {8, "---- 2 ships, clocks"},
        {18, "---- 3 at sea"}, {24, "---- 4 bad falls, ports"}};

    public static void main(String[] args) throws IOException {
        constants();
        classItself();
        methods();
        fields();
        headings();
        Due.finish();
    }

    private static void constants() {
        Due.due("NONE", BallDrops.NONE, -6);
        Due.due("UNKNOWN", BallDrops.UNKNOWN, -1);
        Due.due("OUTSIDE", BallDrops.OUTSIDE, -2);
        Due.due("STATE", BallDrops.STATE, -3);
        Due.due("FULL", BallDrops.FULL, -4);
        Due.due("NO", BallDrops.NO, -5);
        Due.due("GONE", BallDrops.GONE, -100000000);
        Due.due("LOST", BallDrops.LOST, -1000000000000000000L);
    }

    private static void classItself() {
        is("modifiers", Modifier.toString(BallDrops.class.getModifiers()), "public final");
        is("constructors", Arrays.toString(BallDrops.class.getDeclaredConstructors()), "[public BallDrops()]");
    }

    private static void methods() {
        List<String> open = new ArrayList<>();
        List<String> names = new ArrayList<>();
        for (Method m : BallDrops.class.getDeclaredMethods()) {
            if (isOpen(m)) {
                is("modifiers of " + m.getName(), Modifier.toString(m.getModifiers()), "public");
                is("throws of " + m.getName(), Arrays.toString(m.getExceptionTypes()), "[]");
                open.add(m.getReturnType() + " " + m.getName() + types(m));
                names.add(m.getName());
            }
        }
        same("methods", open, METHODS);
        for (Method m : BallDrops.class.getDeclaredMethods()) {
            Due.due("private method with a public name: " + m.getName(),
                    !isOpen(m) && names.contains(m.getName()) ? 1 : 0, 0);
        }
    }

    private static String types(Method m) {
        List<String> types = new ArrayList<>();
        for (Class<?> t : m.getParameterTypes()) {
            types.add(t.toString());
        }
        return "(" + String.join(", ", types) + ")";
    }

    private static void fields() {
        List<String> open = new ArrayList<>();
        for (Field f : BallDrops.class.getDeclaredFields()) {
            if (isOpen(f)) {
                is("modifiers of " + f.getName(), Modifier.toString(f.getModifiers()), "public static final");
                open.add(f.getType() + " " + f.getName());
            }
            if (Modifier.isStatic(f.getModifiers()) && !f.isSynthetic()) {
                Due.due("static and not final: " + f.getName(), Modifier.isFinal(f.getModifiers()) ? 0 : 1, 0);
            }
        }
        same("constants", open, CONSTANTS);
    }

    /** The calls stand in the document's order, each part under its heading. */
    private static void headings() throws IOException {
        String text = Files.readString(Path.of("src/main/java/BallDrops.java"));
        int at = text.indexOf("public BallDrops()");
        int heading = 0;
        for (int m = 0; m < METHODS.length; m++) {
            if (heading < HEADINGS.length && HEADINGS[heading][0].equals(m)) {
                at = next(text, "// " + HEADINGS[heading][1] + "\n", at);
                heading++;
            }
            at = next(text, "    public " + METHODS[m].substring(0, METHODS[m].indexOf('(') + 1), at);
        }
        Due.due("headings", heading, HEADINGS.length);
    }

    private static int next(String text, String what, int from) {
        int at = text.indexOf(what, from);
        Due.due("after what comes before it: " + what, at >= 0 ? 1 : 0, 1);
        return Math.max(at, from);
    }

    private static boolean isOpen(Member m) {
        return !Modifier.isPrivate(m.getModifiers()) && !m.isSynthetic();
    }

    private static void same(String what, List<String> got, String[] want) {
        List<String> sorted = new ArrayList<>(Arrays.asList(want));
        sorted.sort(null);
        got.sort(null);
        is(what, got.toString(), sorted.toString());
    }

    private static void is(String what, String got, String want) {
        if (!got.equals(want)) {
            System.out.println(what + ": " + got + ", due is " + want);
        }
        Due.due(what, got.equals(want) ? 1 : 0, 1);
    }
}
