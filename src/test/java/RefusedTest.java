/**
 * Each call that is refused changes nothing, but that compile changes error(): of two desks that
 * do the same, one is asked for what it must refuse, and both go on alike.
 */
public final class RefusedTest {
    private static final String PROGRAM = "pen 3 to p x{repeat 3{fd x rt 5 let a=a+x}}"
            + "let b=2 while b<9{p(b)let b=b+1.5 up p(1)down}fill home fd 5";
    private static final String TRAPPING = "to p x{fd x rt 5 p(x+1)}pen 4 let c=7 p(2)fd 9";

    public static void main(String[] args) {
        beforeAProgram();
        atEveryTime(PROGRAM, 1);
        atEveryTime(TRAPPING, 14);
        whileItIsTyped();
        firstToldFirst();
        Check.end();
    }

    private static void refusedAlways(TurtleDesk desk) {
        for (int n : new int[] {Integer.MIN_VALUE, -1, 0, 5, Integer.MAX_VALUE}) {
            Check.same("put of " + n, desk.put(0x20202020, n), false);
        }
        Check.same("put of character 127", desk.put(0x2020207f, 4), false);
        Check.same("put of character 0", desk.put(0x00202020, 4), false);
        for (int k : new int[] {-1, desk.size(), Integer.MIN_VALUE, Integer.MAX_VALUE}) {
            Check.thrown("word " + k, IndexOutOfBoundsException.class, () -> desk.word(k));
        }
        for (int v : new int[] {-1, 8, Integer.MIN_VALUE, Integer.MAX_VALUE}) {
            Check.thrown("value " + v, IndexOutOfBoundsException.class, () -> desk.value(v));
        }
        for (int fuel : new int[] {-1, 0, 2001, Integer.MIN_VALUE, Integer.MAX_VALUE}) {
            Check.thrown("run " + fuel, IllegalArgumentException.class, () -> desk.run(fuel));
            Check.thrown("interpret " + fuel, IllegalArgumentException.class,
                    () -> desk.interpret(fuel));
        }
    }

    /** The text has an error, or too many words. */
    private static void refusedTexts(TurtleDesk desk) {
        String[] texts = {
            "let z=1 pen 9 fd y fd", "to p{up}p()p(1)", "fd 1 ~", "up }", "fd1".repeat(53)};
        int[] places = {21, 11, 5, 3, TurtleDesk.NONE};
        for (int k = 0; k < texts.length; k++) {
            Check.retype(desk, texts[k]);
            Check.thrown("compile of " + texts[k],
                    places[k] < 0 ? IllegalStateException.class : IllegalArgumentException.class,
                    desk::compile);
            Check.same("error of " + texts[k], desk.error(), places[k]);
        }
    }

    private static void beforeAProgram() {
        TurtleDesk desk = new TurtleDesk();
        refusedAlways(desk);
        refusedTexts(desk);
        Check.thrown("run", IllegalStateException.class, () -> desk.run(1));
        Check.thrown("interpret", IllegalStateException.class, () -> desk.interpret(1));
        Check.thrown("restart", IllegalStateException.class, () -> {
            desk.restart();
            return "nothing";
        });
        Check.same("scene", Check.scene(desk), Check.scene(new TurtleDesk()));
        Check.same("size", desk.size(), 0);
        desk.clear();
        Check.same("nothing was put", desk.compile(), 1);
        Check.same("error", desk.error(), TurtleDesk.NONE);
        Check.same("run", desk.run(1), 1);
    }

    /** After so many words that were done, or after so much fuel for interpret. */
    private static void atEveryTime(String text, int answer) {
        for (int fuel = 0; fuel < 150; fuel++) {
            for (int way = 0; way < 2; way++) {
                TurtleDesk plain = begun(text, fuel, way);
                TurtleDesk asked = begun(text, fuel, way);
                refusedAlways(asked);
                refusedTexts(asked);
                alike(plain, asked);
                Check.same("run", asked.run(7), plain.run(7));
                alike(plain, asked);
                if (way == 0) {
                    Check.same("run to the end", asked.run(2000), answer);
                    plain.run(2000);
                }
                refusedAlways(asked);
                refusedTexts(asked);
                alike(plain, asked);
                Check.same("run again", asked.run(1), plain.run(1));
                Check.same("interpret", asked.interpret(2000), answer);
                plain.interpret(2000);
                alike(plain, asked);
            }
        }
    }

    private static TurtleDesk begun(String text, int fuel, int way) {
        TurtleDesk desk = Check.compiled(text);
        if (fuel > 0 && way == 0) {
            desk.run(fuel);
        } else if (fuel > 0) {
            desk.interpret(fuel);
        }
        return desk;
    }

    private static void alike(TurtleDesk plain, TurtleDesk asked) {
        Check.same("scene", Check.scene(asked), Check.scene(plain));
        Check.same("code", Check.code(asked), Check.code(plain));
    }

    /** The text is the same after calls that are refused, and the latest error's place too. */
    private static void whileItIsTyped() {
        TurtleDesk desk = Check.typed("fd fd");
        Check.thrown("compile", IllegalArgumentException.class, desk::compile);
        refusedAlways(desk);
        Check.same("error", desk.error(), 3);
        desk.clear();
        for (char c : "fd 12.5 rt a".toCharArray()) {
            refusedAlways(desk);
            Check.type(desk, "" + c);
        }
        refusedAlways(desk);
        Check.same("error", desk.error(), 3);
        Check.same("compile", desk.compile(), 10);
        Check.same("code", Check.code(desk), "0 1 125 1 18 0 2 0 20 27");
        Check.retype(desk, "fd 1" + " ".repeat(156));
        for (int n = 1; n <= 4; n++) {
            Check.same("put into a full text", desk.put(0x31313131, n), false);
        }
        refusedAlways(desk);
        Check.same("compile", desk.compile(), 6);
        Check.same("code", Check.code(desk), "0 1 1 0 18 27");
    }

    /** Of several exceptions the one that is told first is thrown. */
    private static void firstToldFirst() {
        TurtleDesk desk = new TurtleDesk();
        for (int fuel : new int[] {0, 2001}) {
            Check.thrown("run", IllegalArgumentException.class, () -> desk.run(fuel));
            Check.thrown("interpret", IllegalArgumentException.class, () -> desk.interpret(fuel));
        }
        for (int fuel : new int[] {1, 2000}) {
            Check.thrown("run", IllegalStateException.class, () -> desk.run(fuel));
            Check.thrown("interpret", IllegalStateException.class, () -> desk.interpret(fuel));
        }
        Check.type(desk, "fd1".repeat(53));
        Check.thrown("compile of too many words", IllegalStateException.class, desk::compile);
        Check.same("too many words are no error", desk.error(), TurtleDesk.NONE);
        Check.type(desk, "}");
        Check.thrown("compile of an error too", IllegalArgumentException.class, desk::compile);
        Check.same("error", desk.error(), 159);
        Check.retype(desk, "fd1".repeat(50) + "q()");
        Check.thrown("compile of a call that fits nothing", IllegalArgumentException.class,
                desk::compile);
        Check.same("error", desk.error(), 150);
    }
}
