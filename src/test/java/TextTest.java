/** Promises 2 and 3: put and clear. */
public final class TextTest {
    public static void main(String[] args) {
        order();
        refusedCounts();
        characters();
        limit();
        clear();
        Check.end();
    }

    private static void order() {
        TurtleDesk desk = new TurtleDesk();
        // The bytes above the n lowest don't matter.
        Check.same("put of f", desk.put(0xffffff00 | 'f', 1), true);
        Check.same("put of d and a space", desk.put(0x7f00 << 16 | 'd' << 8 | ' ', 2), true);
        Check.same("put of 12.", desk.put(0x80 << 24 | '1' << 16 | '2' << 8 | '.', 3), true);
        Check.same("put of 5+67", desk.put('5' << 24 | '+' << 16 | '6' << 8 | '7', 4), true);
        desk.compile();
        Check.same("code of fd 12.5+67", Check.code(desk), "0 1 125 1 1 67 0 6 18 27");
    }

    private static void refusedCounts() {
        TurtleDesk desk = Check.typed("up");
        for (int n : new int[] {0, -1, 5, 8, Integer.MIN_VALUE, Integer.MAX_VALUE}) {
            Check.same("put of n = " + n, desk.put(0x20202020, n), false);
        }
        Check.thrown("compile of up up{", IllegalArgumentException.class, () -> {
            Check.type(desk, "{");
            return desk.compile();
        });
        Check.same("nothing was put", desk.error(), 2);
    }

    private static void characters() {
        for (int c = 0; c < 256; c++) {
            boolean due = c == 10 || c >= 32 && c <= 126;
            Check.same("put of character " + c, new TurtleDesk().put(c, 1), due);
            // One such character among four, at each place.
            for (int k = 0; k < 4; k++) {
                int word = 0x20202020 & ~(255 << 8 * k) | c << 8 * k;
                TurtleDesk desk = new TurtleDesk();
                Check.same("put of character " + c + " at " + k, desk.put(word, 4), due);
                Check.type(desk, "fd");
                Check.thrown("compile", IllegalArgumentException.class, desk::compile);
                if (!due) {
                    Check.same("nothing was put of " + c, desk.error(), 2);
                } else if (c == 10 || c == 32) {
                    Check.same("spaces were put", desk.error(), 6);
                }
            }
        }
        Check.same("put of -1", new TurtleDesk().put(-1, 1), false);
    }

    private static void limit() {
        TurtleDesk desk = Check.typed(" ".repeat(157));
        Check.same("four beyond 157", desk.put(0x20202020, 4), false);
        Check.same("three beyond 157", desk.put(0x20757020, 3), true);
        Check.same("one beyond 160", desk.put(' ', 1), false);
        Check.same("four beyond 160", desk.put(0x20202020, 4), false);
        Check.same("a text of 160", desk.compile(), 3);
        Check.same("code of a text of 160", Check.code(desk), "0 23 27");
        for (int n = 1; n <= 4; n++) {
            desk = Check.typed(" ".repeat(160 - n));
            Check.same("up to 160", desk.put(0x20202020, n), true);
            for (int more = 1; more <= 4; more++) {
                Check.same("beyond 160", desk.put(0x20202020, more), false);
            }
            desk = Check.typed(" ".repeat(161 - n));
            Check.same("up to 161", desk.put(0x7d7d7d7d, n), false);
            Check.same("nothing was put", desk.compile(), 1);
        }
        Check.retype(desk, " ".repeat(158) + "fd");
        Check.thrown("compile", IllegalArgumentException.class, desk::compile);
        Check.same("the end of a text of 160", desk.error(), 160);
    }

    private static void clear() {
        TurtleDesk desk = Check.done("fd 3 let a=2 fd 1");
        String before = Check.scene(desk);
        desk.clear();
        Check.same("size stays", desk.size(), 17);
        Check.same("the scene stays", Check.scene(desk), before);
        Check.same("run goes on as before", desk.run(1), 1);
        Check.retype(desk, "fd");
        Check.thrown("compile", IllegalArgumentException.class, desk::compile);
        desk.clear();
        Check.same("the error's place stays", desk.error(), 2);
        Check.same("compile of nothing", desk.compile(), 1);
        Check.same("a whole text fits again", desk.put(0x20202020, 4), true);
    }
}
