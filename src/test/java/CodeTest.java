/** Promises 4, 6 and 7: the words that compile makes, size and word. */
public final class CodeTest {
    public static void main(String[] args) {
        simple();
        expressions();
        loopsAndConditions();
        definitionsAndCalls();
        names();
        sizeAndWord();
        differentNames();
        textAfterText();
        beginning();
        Check.end();
    }

    private static void code(String text, String words) {
        TurtleDesk desk = Check.typed(text);
        Check.same("compile of " + text, desk.compile(), words.split(" ").length);
        Check.same("code of " + text, Check.code(desk), words);
        Check.same("size of " + text, desk.size(), words.split(" ").length);
    }

    private static void simple() {
        code("", "27");
        code(" \n ", "27");
        code("fd 1", "0 1 1 0 18 27");
        code("bk 1.5", "0 1 15 1 19 27");
        code("rt 2.25", "0 1 225 2 20 27");
        code("lt 007", "0 1 7 0 21 27");
        code("pen 1.50", "0 1 150 2 22 27");
        code("pen 9999.99", "0 1 999999 2 22 27");
        code("up down fill home stop", "0 23 0 24 0 25 0 26 0 17 27");
        code("let a=0", "0 1 0 0 4 0 27");
    }

    private static void expressions() {
        code("fd 1+2-3", "0 1 1 0 1 2 0 6 1 3 0 7 18 27");
        code("fd 1+2*3", "0 1 1 0 1 2 0 1 3 0 8 6 18 27");
        code("fd 1*2+3", "0 1 1 0 1 2 0 8 1 3 0 6 18 27");
        code("fd 8/4/2", "0 1 8 0 1 4 0 9 1 2 0 9 18 27");
        code("fd 8/4*2", "0 1 8 0 1 4 0 9 1 2 0 8 18 27");
        code("fd (1+2)*3/a", "0 1 1 0 1 2 0 6 1 3 0 8 2 0 9 18 27");
        code("fd 1-(2-3)", "0 1 1 0 1 2 0 1 3 0 7 7 18 27");
        code("fd -(a)--b", "0 2 0 10 2 1 10 7 18 27");
        code("fd -1*-2", "0 1 1 0 10 1 2 0 10 8 18 27");
        code("fd -(1+2)", "0 1 1 0 1 2 0 6 10 18 27");
        code("fd ((1))", "0 1 1 0 18 27");
    }

    private static void loopsAndConditions() {
        code("repeat 2{up}", "0 1 2 0 28 10 0 23 14 4 27");
        code("repeat 1+2{}down", "0 1 1 0 1 2 0 6 28 12 14 8 0 24 27");
        code("while a<1{up}", "0 2 0 1 1 0 11 29 13 0 23 14 1 27");
        code("up while a=b{}", "0 23 0 2 0 2 1 13 29 12 14 3 27");
        code("if a>1{up}", "0 2 0 1 1 0 12 15 11 0 23 27");
        code("if a=1{up}else{down}", "0 2 0 1 1 0 13 15 13 0 23 14 15 0 24 27");
        code("if a=1{}else{}", "0 2 0 1 1 0 13 15 11 14 11 27");
        code("repeat 2{repeat 3{up}}",
                "0 1 2 0 28 18 0 1 3 0 28 16 0 23 14 10 14 4 27");
    }

    private static void definitionsAndCalls() {
        code("to t{}", "14 3 17 27");
        code("t()to t{}", "0 16 6 0 14 7 17 27");
        code("to t a b{let a=b let c=a}t(1,c)",
                "14 13 0 3 1 5 0 0 3 0 4 0 17 0 1 1 0 2 0 16 2 2 27");
        code("to t a{t(a)}to u{t(1)stop}u()",
                "14 9 0 3 0 16 2 1 17 14 21 0 1 1 0 16 2 1 0 17 17 0 16 11 0 27");
        code("to p x y z{}p(1,2,3)", "14 3 17 0 1 1 0 1 2 0 1 3 0 16 2 3 27");
    }

    private static void names() {
        // Numbered as they stand: that of a let before those of its E.
        code("let b=a let c=b", "0 2 1 4 0 0 2 0 4 2 27");
        code("if c<b{fd a}", "0 2 0 2 1 11 15 12 0 2 2 18 27");
        // A name is a parameter only in its definition, and a variable else.
        code("let x=1 to t x{let x=y}let y=x", "0 1 1 0 4 0 14 14 0 2 1 5 0 17 0 2 0 4 1 27");
        code("to t x{fd x}to u{fd x}fd x", "14 7 0 3 0 18 17 14 14 0 2 0 18 17 0 2 0 18 27");
        // A definition's name may be that of a parameter or a variable as well.
        code("to t t{fd t t(t)}let t=1", "14 13 0 3 0 18 0 3 0 16 2 1 17 0 1 1 0 4 0 27");
        code("fd upp+too+t", "0 2 0 2 1 6 2 2 6 18 27");
    }

    /** Names that share letters, or have those of a reserved word, are different names. */
    private static void differentNames() {
        String[][] all = {
            {"a", "aa", "ab", "ba", "b", "bb", "aab", "baa"},
            {"z", "zz", "az", "za", "zaz", "y", "yz", "az"},
            {"aaaaaaaa", "aaaaaaab", "baaaaaaa", "zzzzzzzz", "azzzzzzz", "aaaaaaa"},
            {"t", "o", "ot", "too", "f", "d", "df", "fdd"},
            {"whil", "whilee", "hile", "repea", "epeat", "els", "elsee", "fi"}
        };
        for (String[] names : all) {
            for (int k = 0; k < names.length; k++) {
                for (int n = 0; n < names.length; n++) {
                    int second = names[k].equals(names[n]) ? 0 : 1;
                    code("let " + names[k] + "=" + names[n], "0 2 " + second + " 4 0 27");
                }
            }
        }
    }

    /** What was read of one text has no part in the next ones. */
    private static void textAfterText() {
        TurtleDesk desk = new TurtleDesk();
        for (int turn = 0; turn < 3; turn++) {
            codeNext(desk, "to q{}q()fd b", "14 3 17 0 16 2 0 0 2 0 18 27");
            codeNext(desk, "q()to q{}q()fd d", "0 16 6 0 14 7 17 0 16 6 0 0 2 0 18 27");
            codeNext(desk, "fd c", "0 2 0 18 27");
            codeNext(desk, "fd d+e", "0 2 0 2 1 6 18 27");
            codeNext(desk, "", "27");
            refusedNext(desk, "q()", 0);
            refusedNext(desk, "to p x{fd", 9);
            codeNext(desk, "fd y+x", "0 2 0 2 1 6 18 27");
            refusedNext(desk, "fd a+b+c+d+e+f+g+h+i", 19);
            codeNext(desk, "to p i{fd i}p(i)", "14 7 0 3 0 18 17 0 2 0 16 2 1 27");
            refusedNext(desk, "to p{}p()q()", 9);
            codeNext(desk, "to q{}to p{q()}", "14 3 17 14 10 0 16 2 0 17 27");
        }
    }

    private static void codeNext(TurtleDesk desk, String text, String words) {
        Check.retype(desk, text);
        desk.compile();
        Check.same("code of " + text, Check.code(desk), words);
        Check.same("error of " + text, desk.error(), -1);
    }

    private static void refusedNext(TurtleDesk desk, String text, int place) {
        Check.retype(desk, text);
        String before = Check.code(desk);
        Check.thrown("compile of " + text, IllegalArgumentException.class, desk::compile);
        Check.same("error of " + text, desk.error(), place);
        Check.same("the code before " + text, Check.code(desk), before);
    }

    private static void sizeAndWord() {
        TurtleDesk desk = Check.compiled("fd 12.5");
        Check.same("size", desk.size(), 6);
        Check.same("word", desk.word(0), 0);
        Check.same("word", desk.word(2), 125);
        Check.same("word", desk.word(5), 27);
        for (int k : new int[] {6, 7, 240, -1, Integer.MIN_VALUE, Integer.MAX_VALUE}) {
            Check.thrown("word " + k, IndexOutOfBoundsException.class, () -> desk.word(k));
        }
        Check.retype(desk, "up");
        Check.same("size before compile", desk.size(), 6);
        Check.same("compile", desk.compile(), 3);
        Check.same("size after compile", desk.size(), 3);
        Check.thrown("word of the code before", IndexOutOfBoundsException.class,
                () -> desk.word(3));
    }

    /** A program that is compiled finds all at its beginning. */
    private static void beginning() {
        TurtleDesk desk = Check.compiled("pen 5 fd 4 rt 3 let a=7 up to p{p()}p()");
        Check.same("run", desk.run(2000), 14);
        Check.retype(desk, "fd a+1");
        Check.same("compile", desk.compile(), 9);
        Check.same("scene", Check.scene(desk), Check.scene(new TurtleDesk()));
        Check.same("run", desk.run(5), 2);
        Check.same("run", desk.run(1), 1);
        Check.same("the pen is down and has its first colour", desk.pixel(17, 12), 1);
        Check.same("the pen before drew nothing now", desk.pixel(18, 12), 0);
    }
}
