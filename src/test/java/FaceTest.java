import java.io.IOException;
import java.lang.reflect.Constructor;
import java.lang.reflect.Field;
import java.lang.reflect.Method;
import java.lang.reflect.Modifier;
import java.nio.file.Files;
import java.nio.file.Path;
import java.util.Set;
import java.util.TreeSet;

/** The face of the class, rules of LANGUAGE.md that can be seen from outside, and promise 1. */
public final class FaceTest {
    public static void main(String[] args) throws IOException {
        members();
        sizes();
        source();
        newObject();
        beforeAProgram();
        exampleOfReadme();
        Check.end();
    }

    private static void members() {
        Set<String> seen = new TreeSet<>();
        for (Method m : TurtleDesk.class.getDeclaredMethods()) {
            if (!Modifier.isPrivate(m.getModifiers())) {
                seen.add(m.toString().replace("TurtleDesk.", ""));
            }
        }
        for (Field f : TurtleDesk.class.getDeclaredFields()) {
            if (!Modifier.isPrivate(f.getModifiers())) {
                seen.add(f.toString().replace("TurtleDesk.", ""));
            }
        }
        for (Constructor<?> c : TurtleDesk.class.getDeclaredConstructors()) {
            seen.add(c.toString());
        }
        String state = "java.lang.IllegalStateException";
        String argument = "java.lang.IllegalArgumentException";
        String index = "java.lang.IndexOutOfBoundsException";
        Set<String> due = new TreeSet<>(Set.of(
                "public static final int NONE",
                "public TurtleDesk()",
                "public boolean put(int,int)",
                "public void clear()",
                "public int compile() throws " + argument + "," + state,
                "public int error()",
                "public int size()",
                "public int word(int) throws " + index));
        due.addAll(Set.of(
                "public void restart() throws " + state,
                "public int run(int) throws " + argument + "," + state,
                "public int interpret(int) throws " + argument + "," + state,
                "public int pixel(int,int)",
                "public float x()",
                "public float y()",
                "public int heading()",
                "public float value(int) throws " + index));
        Check.same("the face", seen, due);
        Check.same("the class", Modifier.toString(TurtleDesk.class.getModifiers()), "public final");
        Check.same("NONE", TurtleDesk.NONE, -1);
        for (Class<?> inside : TurtleDesk.class.getDeclaredClasses()) {
            int m = inside.getModifiers();
            Check.same(inside.getName() + " is static", Modifier.isStatic(m), true);
            Check.same(inside.getName() + " is public or protected",
                    Modifier.isPublic(m) || Modifier.isProtected(m), false);
            for (Method method : inside.getDeclaredMethods()) {
                Check.same(method + " bears a name of the face", isOfFace(method.getName()), false);
            }
        }
    }

    private static void sizes() {
        Class<?>[] inside = TurtleDesk.class.getDeclaredClasses();
        Check.same("at most twelve classes", inside.length + 1 <= 12, true);
        sizes(TurtleDesk.class);
        for (Class<?> c : inside) {
            Check.same(c + " is told by this test", c.getDeclaredClasses().length, 0);
            sizes(c);
        }
    }

    private static void sizes(Class<?> c) {
        int fields = 0;
        for (Field f : c.getDeclaredFields()) {
            boolean isStatic = Modifier.isStatic(f.getModifiers());
            fields += isStatic ? 0 : 1;
            Check.same(f + " is final", !isStatic || Modifier.isFinal(f.getModifiers()), true);
        }
        Check.same(c + " has at most twenty fields", fields <= 20, true);
        for (Method m : c.getDeclaredMethods()) {
            Check.same(m + " has few parameters", m.getParameterCount() <= 7, true);
        }
    }

    private static boolean isOfFace(String name) {
        for (Method m : TurtleDesk.class.getDeclaredMethods()) {
            if (Modifier.isPublic(m.getModifiers()) && m.getName().equals(name)) {
                return true;
            }
        }
        return false;
    }

    private static void source() throws IOException {
        String source = Files.readString(Path.of("src/main/java/TurtleDesk.java"));
        for (String out : new String[] {
            "->", "::", "finally", "synchronized", "assert ", "static {", "package ", "getMessage",
            "Exact(", "java.io", "java.nio", "java.time", "Random", "System.", "Float."}) {
            Check.same("the source has " + out, source.contains(out), false);
        }
        Check.same("imports", source.split("(?m)^import ").length - 1, 1);
        Check.same("the import", source.contains("import java.util.Arrays;"), true);
    }

    private static void newObject() {
        TurtleDesk desk = new TurtleDesk();
        Check.same("size", desk.size(), 0);
        Check.same("error", desk.error(), TurtleDesk.NONE);
        Check.same("x", desk.x(), 16f);
        Check.same("y", desk.y(), 12f);
        Check.same("heading", desk.heading(), 0);
        Check.same("pixels", Check.picture(desk), ("0".repeat(32) + "\n").repeat(24));
        for (int v = 0; v < 8; v++) {
            Check.same("value", desk.value(v), 0f);
        }
        Check.same("the empty text's code", desk.compile(), 1);
        Check.same("the empty text's code", Check.code(desk), "27");
    }

    private static void beforeAProgram() {
        TurtleDesk desk = Check.typed("fd fd");
        for (int turn = 0; turn < 2; turn++) {
            Check.thrown("word", IndexOutOfBoundsException.class, () -> desk.word(0));
            Check.thrown("restart", IllegalStateException.class, () -> {
                desk.restart();
                return "nothing";
            });
            Check.thrown("run", IllegalStateException.class, () -> desk.run(1));
            Check.thrown("run without fuel", IllegalArgumentException.class, () -> desk.run(0));
            Check.thrown("interpret", IllegalStateException.class, () -> desk.interpret(2000));
            Check.thrown("interpret with too much fuel", IllegalArgumentException.class,
                    () -> desk.interpret(2001));
            // A text that is refused is no program.
            Check.thrown("compile", IllegalArgumentException.class, desk::compile);
            Check.same("size", desk.size(), 0);
        }
    }

    /** What README.md tells of its example, and that this is the example that it shows. */
    private static void exampleOfReadme() throws IOException {
        String text = "repeat 4{fd 6.5 rt 6}";
        String readme = Files.readString(Path.of("README.md"));
        Check.same("the example's text", readme.contains('"' + text + '"'), true);
        TurtleDesk desk = new TurtleDesk();
        for (char c : text.toCharArray()) {
            Check.same("put", desk.put(c, 1), true);
        }
        Check.same("compile", desk.compile(), 19);
        Check.same("run", desk.run(2000), 1);
        Check.same("pixel", desk.pixel(22, 12), 1);
        Check.same("interpret", desk.interpret(2000), 1);
        Check.same("pixel after interpret", desk.pixel(22, 12), 1);
    }
}
