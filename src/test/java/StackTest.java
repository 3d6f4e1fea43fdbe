import java.lang.reflect.Field;
import java.util.Arrays;

/**
 * Trap 15. No text puts more than 20 values on the stack, so a program is compiled and what was
 * made of it is changed behind the desk's back: only so the limit of 24 can be come to.
 */
public final class StackTest {
    private static final int NUMBER = 1;
    private static final int HALT = 27;

    public static void main(String[] args) throws ReflectiveOperationException {
        words();
        terms();
        Check.end();
    }

    private static Object get(Object from, String name) throws ReflectiveOperationException {
        Field field = from.getClass().getDeclaredField(name);
        field.setAccessible(true);
        return field.get(from);
    }

    private static TurtleDesk summing() {
        return Check.compiled("fd 1" + "+1".repeat(30));
    }

    /** A desk whose code puts so many numbers on the stack, and halts. */
    private static TurtleDesk pushing(int count) throws ReflectiveOperationException {
        TurtleDesk desk = summing();
        int[] words = (int[]) get(get(desk, "program"), "words");
        for (int k = 0; k < count; k++) {
            words[3 * k] = NUMBER;
            words[3 * k + 1] = k;
            words[3 * k + 2] = 0;
        }
        words[3 * count] = HALT;
        return desk;
    }

    private static void words() throws ReflectiveOperationException {
        Check.same("24 values and their halt", pushing(24).run(25), 1);
        Check.same("24 values", pushing(24).run(24), 2);
        TurtleDesk desk = pushing(25);
        Check.same("24 of 25 values", desk.run(24), 2);
        Check.same("one more", desk.run(1), 15);
        Check.same("the same again", desk.run(2000), 15);
        Check.same("nothing was done", Check.scene(desk), Check.scene(new TurtleDesk()));
        desk.restart();
        Check.same("the stack is empty again", desk.run(24), 2);
        Check.same("one more", desk.run(2000), 15);
    }

    /** A desk whose fd has an E that puts so many numbers on the stack. */
    private static TurtleDesk reckoning(int count) throws ReflectiveOperationException {
        TurtleDesk desk = summing();
        Object program = get(desk, "program");
        Arrays.fill((int[]) get(program, "termKinds"), NUMBER);
        Arrays.fill((int[]) get(program, "termNumbers"), 1);
        Object statement = get(program, "first");
        Field to = statement.getClass().getDeclaredField("to");
        to.setAccessible(true);
        to.set(statement, count);
        return desk;
    }

    private static void terms() throws ReflectiveOperationException {
        TurtleDesk desk = reckoning(24);
        Check.same("24 values", desk.interpret(1), 1);
        Check.same("x", desk.x(), 17f);
        desk = reckoning(25);
        for (int turn = 0; turn < 2; turn++) {
            Check.same("25 values", desk.interpret(2000), 15);
            Check.same("nothing was done", Check.scene(desk), Check.scene(new TurtleDesk()));
            Check.same("run after it", desk.run(1), 15);
        }
    }
}
