/** What the tests have in common: texts are typed, answers compared, and wrong ones counted. */
final class Check {
    /** A call on a desk; lambdas stand for it. */
    interface Call {
        Object answer();
    }

    private static int wrong = 0;
    private static int done = 0;

    private Check() {
    }

    /** A new desk with a text. */
    static TurtleDesk typed(String text) {
        TurtleDesk desk = new TurtleDesk();
        type(desk, text);
        return desk;
    }

    /** A new desk with a text that was compiled. */
    static TurtleDesk compiled(String text) {
        TurtleDesk desk = typed(text);
        desk.compile();
        return desk;
    }

    /** A new desk whose program was run with all the fuel that one run may have. */
    static TurtleDesk done(String text) {
        TurtleDesk desk = compiled(text);
        same("run of " + text, desk.run(2000), 1);
        return desk;
    }

    static void type(TurtleDesk desk, String text) {
        for (int k = 0; k < text.length(); k++) {
            same("put " + text.charAt(k), desk.put(text.charAt(k), 1), true);
        }
    }

    static void retype(TurtleDesk desk, String text) {
        desk.clear();
        type(desk, text);
    }

    static String code(TurtleDesk desk) {
        StringBuilder words = new StringBuilder();
        for (int k = 0; k < desk.size(); k++) {
            words.append(k == 0 ? "" : " ").append(desk.word(k));
        }
        return words.toString();
    }

    static String picture(TurtleDesk desk) {
        StringBuilder all = new StringBuilder();
        for (int y = 0; y < 24; y++) {
            for (int x = 0; x < 32; x++) {
                all.append(desk.pixel(x, y));
            }
            all.append('\n');
        }
        return all.toString();
    }

    /** All that can be seen of the turtle, its picture and the variables. */
    static String scene(TurtleDesk desk) {
        StringBuilder all = new StringBuilder(picture(desk));
        all.append(desk.x()).append(' ').append(desk.y()).append(' ').append(desk.heading());
        for (int v = 0; v < 8; v++) {
            all.append(' ').append(desk.value(v));
        }
        return all.toString();
    }

    /** Floats are the same when their bits are, so that -0.0 is not 0.0. */
    static void same(String what, Object got, Object want) {
        done++;
        if (!got.equals(want)) {
            wrong++;
            System.out.println(what + " answered " + got + ", due is " + want);
        }
    }

    /** The call throws exactly this exception. */
    static void thrown(String what, Class<? extends RuntimeException> want, Call call) {
        Object got;
        try {
            got = call.answer();
        } catch (RuntimeException e) {
            got = e.getClass();
        }
        same(what, got, want);
    }

    static void end() {
        System.out.println(done + " answers, " + wrong + " wrong");
        System.exit(wrong == 0 ? 0 : 1);
    }
}
