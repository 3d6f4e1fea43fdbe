/** All promises at once: texts made by a fixed rule, right and wrong, beside the Model. */
public final class ModelTest {
    private static final String[] PARTS = {
        "to ", "fd ", "bk ", "rt ", "lt ", "pen ", "up ", "down ", "fill ", "home ", "stop ", "let ",
        "repeat ", "while ", "if ", "else", "p", "q", "a", "b", "i ", "abcdefgh", "abcdefghi", "7",
        "1234", "12345", "0.5", "1.25", "1.234", ".", "1.", "{", "}", "(", ")", "+", "-", "*", "/",
        "<", ">", "=", ",", " ", "\n", "{}", "()", "p()", "A", "!", "~", "q(1,2)", "fd c+d+e+f+g+h"
    };

    private static long seed = 11;
    private static int wrongTexts = 0;
    private static int longCodes = 0;
    private static final int[] answers = new int[16];

    public static void main(String[] args) {
        int turns = args.length > 0 ? Integer.parseInt(args[0]) : 4000;
        Programs programs = new Programs(args.length > 1 ? Long.parseLong(args[1]) : 5);
        for (int k = 0; k < turns; k++) {
            TurtleDesk desk = new TurtleDesk();
            int[] code = new int[0];
            for (int turn = 0; turn < 3; turn++) {
                String text = programs.next();
                if (below(2) == 0) {
                    text = spoilt(text);
                }
                code = read(desk, text, code);
                if (code.length > 0) {
                    use(desk, text, code);
                }
            }
        }
        Check.same("many texts are wrong", wrongTexts > turns / 2, true);
        Check.same("some codes are too long", longCodes > turns / 1000, true);
        for (int answer : new int[] {1, 2, 11, 12, 13, 14}) {
            Check.same("some runs answer " + answer, answers[answer] > turns / 50, true);
        }
        Check.end();
    }

    private static int below(int bound) {
        seed = seed * 6364136223846793005L + 1442695040888963407L;
        return (int) ((seed >>> 33) % bound);
    }

    /** The text with a few parts more, less or others. */
    private static String spoilt(String text) {
        String all = text;
        for (int n = 1 + below(3); n > 0; n--) {
            int from = below(all.length() + 1);
            int to = Math.min(all.length(), from + below(3));
            String part = below(3) == 0 ? "" : PARTS[below(PARTS.length)];
            all = all.substring(0, from) + part + all.substring(to);
        }
        if (below(8) == 0) {
            all = all.substring(0, below(all.length() + 1));
        }
        return all.length() <= 160 ? all : all.substring(0, 160);
    }

    /** Compiles the text; answers the code that the desk has then. */
    private static int[] read(TurtleDesk desk, String text, int[] before) {
        String scene = Check.scene(desk);
        Check.retype(desk, text);
        int[] code = before;
        try {
            int[] words = Model.wordsOf(text);
            if (words.length > 240) {
                longCodes++;
                Check.thrown("compile of " + text, IllegalStateException.class, desk::compile);
                Check.same("scene", Check.scene(desk), scene);
            } else {
                code = words;
                Check.same("compile of " + text, desk.compile(), words.length);
                Check.same("scene", Check.scene(desk), Check.scene(new TurtleDesk()));
            }
            Check.same("error of " + text, desk.error(), TurtleDesk.NONE);
        } catch (Model.Wrong wrong) {
            wrongTexts++;
            Check.thrown("compile of " + text, IllegalArgumentException.class, desk::compile);
            Check.same("error of " + text, desk.error(), wrong.place);
            Check.same("scene", Check.scene(desk), scene);
        }
        Check.same("size of " + text, desk.size(), code.length);
        for (int k = 0; k < code.length; k++) {
            Check.same("word " + k + " of " + text, desk.word(k), code[k]);
        }
        return code;
    }

    private static void use(TurtleDesk desk, String text, int[] code) {
        desk.restart();
        Model model = Model.machine(code);
        for (int turn = 0; turn < 8; turn++) {
            int fuel = 1 + (below(2) == 0 ? below(30) : below(2000));
            if (below(8) == 0) {
                desk.restart();
                model = Model.machine(code);
            }
            if (below(4) == 0) {
                model = Model.machine(code);
                int answer = model.interpret(fuel);
                answers[answer]++;
                Check.same("interpret " + fuel + " of " + text, desk.interpret(fuel), answer);
            } else {
                int answer = model.run(fuel);
                answers[answer]++;
                Check.same("run " + fuel + " of " + text, desk.run(fuel), answer);
            }
            Check.same("scene of " + text, Check.scene(desk), model.scene());
        }
    }
}
