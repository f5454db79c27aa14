import java.lang.management.ManagementFactory;
import java.lang.reflect.Constructor;
import java.lang.reflect.Field;
import java.lang.reflect.Method;
import java.lang.reflect.Modifier;
import java.nio.file.Files;
import java.nio.file.Path;
import java.util.ArrayList;
import java.util.Arrays;
import java.util.List;
import java.util.TreeSet;

/** The public face as the document gives it, and those rules of LANGUAGE.md that can be looked up. */
public final class FaceTest {
    private static final String SOURCE = "src/main/java/TwigMatches.java";
    private static final String[] FACE = {
        "int adds(int, int, int, int)", "int drops(int)", "int sets(int, int, int)",
        "int moves(int, int, int)", "int element(int, int)", "int size()", "int node(int, int, int)",
        "int forgets(int)", "int nodes(int)", "int folds(int, int)", "int spare(int, int)",
        "long matches(int)", "int match(int, long, int)", "long place(int, long)",
        "int fits(int, int)", "int found(int, int)", "long part(int, int, int)",
        "long ways(int, int, int)", "long less(int, int)", "int type(int)", "int clear()",
        "int builds()", "int twigs(int)", "int why()", "int shown(int, int)", "int back()",
        "int told(int)", "long digest()"};
    private static final Checks c = new Checks("FaceTest");

    public static void main(String[] args) throws Exception {
        methods();
        constants();
        privateNames();
        classesInside();
        words();
        room();
        c.finish();
    }

    private static String parameters(Class<?>[] types) {
        List<String> names = new ArrayList<>();
        for (Class<?> type : types) {
            names.add(type.getName());
        }
        return String.join(", ", names);
    }

    private static void methods() {
        TreeSet<String> seen = new TreeSet<>();
        for (Method m : TwigMatches.class.getDeclaredMethods()) {
            if (Modifier.isPublic(m.getModifiers()) && !Modifier.isStatic(m.getModifiers())) {
                seen.add(m.getReturnType() + " " + m.getName() + "(" + parameters(m.getParameterTypes()) + ")");
            } else if (!m.isSynthetic()) {
                c.due("private " + m.getName(), Modifier.isPrivate(m.getModifiers()) ? 1 : 0, 1);
            }
        }
        c.due("methods", seen.toString(), new TreeSet<>(Arrays.asList(FACE)).toString());
        int made = 0;
        for (Constructor<?> k : TwigMatches.class.getDeclaredConstructors()) {
            made++;
            c.due("constructor", Modifier.isPublic(k.getModifiers()) ? k.getParameterCount() : -1, 0);
        }
        c.due("constructors", made, 1);
        int modifiers = TwigMatches.class.getModifiers();
        c.due("class", Modifier.toString(modifiers), "public final");
    }

    private static void constants() {
        TreeSet<String> seen = new TreeSet<>();
        for (Field f : TwigMatches.class.getDeclaredFields()) {
            if (!Modifier.isPrivate(f.getModifiers())) {
                seen.add(Modifier.toString(f.getModifiers()) + " " + f.getType() + " " + f.getName());
            }
            if (Modifier.isStatic(f.getModifiers())) {
                c.due("final " + f.getName(), Modifier.isFinal(f.getModifiers()) ? 1 : 0, 1);
            }
        }
        c.due("constants", seen.toString(), "[public static final int BAD, public static final int FULL, "
                + "public static final int NO, public static final int NONE]");
        c.due("NONE", TwigMatches.NONE, -1);
        c.due("BAD", TwigMatches.BAD, -2);
        c.due("NO", TwigMatches.NO, -3);
        c.due("FULL", TwigMatches.FULL, -4);
    }

    private static void privateNames() {
        TreeSet<String> names = new TreeSet<>();
        for (String line : FACE) {
            names.add(line.substring(line.indexOf(' ') + 1, line.indexOf('(')));
        }
        List<Class<?>> all = new ArrayList<>(Arrays.asList(TwigMatches.class.getDeclaredClasses()));
        all.add(TwigMatches.class);
        for (Class<?> k : all) {
            for (Method m : k.getDeclaredMethods()) {
                boolean face = k == TwigMatches.class && Modifier.isPublic(m.getModifiers());
                c.due(k.getName() + "." + m.getName() + " bears a public name",
                        !face && names.contains(m.getName()) ? 1 : 0, 0);
                c.due(k.getName() + "." + m.getName() + " parameters", m.getParameterCount() <= 7 ? 1 : 0, 1);
            }
        }
    }

    private static void classesInside() {
        Class<?>[] inside = TwigMatches.class.getDeclaredClasses();
        c.due("at most twelve classes", inside.length < 12 ? 1 : 0, 1);
        for (Class<?> k : inside) {
            int modifiers = k.getModifiers();
            c.due(k.getName() + " static", Modifier.isStatic(modifiers) ? 1 : 0, 1);
            c.due(k.getName() + " hidden", modifiers & (Modifier.PUBLIC | Modifier.PROTECTED), 0);
        }
    }

    private static void words() throws Exception {
        String source = Files.readString(Path.of(SOURCE));
        String code = source.replaceAll("(?s)/\\*.*?\\*/", "").replaceAll("//[^\n]*", "");
        String[] refused = {"\\bthrow\\b", "\\btry\\b", "\\bcatch\\b", "\\bsynchronized\\b", "\\bassert\\b",
            "\\bimport\\b", "\\bpackage\\b", "->", "::", "\\bObject\\b", "\\bhashCode\\b", "\\bequals\\b",
            "\\btoString\\b", "\\bSystem\\.(?!arraycopy\\b)", "\\bMath\\.(?!max\\b|min\\b)", "\\bprotected\\b"};
        for (String word : refused) {
            c.due("the source has " + word, code.split(word, -1).length - 1, 0);
        }
        int longest = 0;
        for (int k = 0; k < source.length(); k++) {
            longest = Math.max(longest, source.charAt(k));
        }
        c.due("signs are 1 to 127", longest < 128 ? 1 : 0, 1);
    }

    /** The calls must live in one room: all that they need is made with the object. */
    private static void room() {
        com.sun.management.ThreadMXBean threads =
                (com.sun.management.ThreadMXBean) ManagementFactory.getThreadMXBean();
        long id = Thread.currentThread().getId();
        long[] spent = new long[3];
        for (int k = 0; k < 3; k++) {
            long start = threads.getThreadAllocatedBytes(id);
            TwigMatches x = new TwigMatches();
            long made = threads.getThreadAllocatedBytes(id);
            callAll(x);
            spent[k] = threads.getThreadAllocatedBytes(id) - made;
            c.due("a new object is small", made - start < 100_000 ? 1 : 0, 1);
        }
        // The first rounds load classes; the last one shows what the calls themselves need.
        c.due("the calls make next to nothing, bytes: " + spent[2], spent[2] < 4_000 ? 1 : 0, 1);
    }

    private static void callAll(TwigMatches x) {
        Checks.build(x, "a(b(c)b(a(b2)c)c3)");
        Checks.twig(x, 0, "a(~b~c)");
        Checks.twig(x, 1, "a(~b;~c(~a))");
        for (int k = 0; k < 15; k++) {
            x.adds(0, 0, 1, 1);
            x.sets(1, 2, 3);
            x.moves(1, 2, 0);
            x.drops(2);
            x.element(1, 4);
            x.node(0, 1, 1);
            x.folds(0, 0);
            x.spare(0, 1);
            x.match(0, 2, 2);
            x.place(0, 34);
            x.fits(0, 1);
            x.found(1, 2);
            x.part(0, 1, 1);
            x.ways(1, 2, 1);
            x.less(0, 1);
            x.shown(0, 3);
            x.shown(-1, 3);
            x.builds();
            x.twigs(2);
            x.digest();
            x.back();
        }
    }
}
