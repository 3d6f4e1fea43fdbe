/** Promises 4 and 5: what compile refuses, and where error says that it is. */
public final class ErrorTest {
    public static void main(String[] args) {
        characters();
        letters();
        digits();
        points();
        behindTheEnd();
        firstOfAll();
        reservedWords();
        tokens();
        endOfText();
        definitions();
        calls();
        variables();
        blocks();
        brackets();
        codeTooLong();
        whatStays();
        Check.end();
    }

    private static void refused(String text, int place) {
        TurtleDesk desk = Check.typed(text);
        Check.thrown("compile of " + text, IllegalArgumentException.class, desk::compile);
        Check.same("error of " + text, desk.error(), place);
        Check.same("size after " + text, desk.size(), 0);
    }

    private static void fits(String text, int words) {
        TurtleDesk desk = Check.typed(text);
        Check.same("compile of " + text, desk.compile(), words);
        Check.same("error of " + text, desk.error(), -1);
        Check.same("size of " + text, desk.size(), words);
    }

    /** Each character alone: one of no token is told before the token that may not stand. */
    private static void characters() {
        for (char c = 32; c <= 126; c++) {
            boolean isToken = c == ' ' || c >= 'a' && c <= 'z' || c >= '0' && c <= '9'
                    || "{}()+-*/<>=,".indexOf(c) >= 0;
            refused("} " + c, isToken ? 0 : 2);
            refused("}" + c + "#", isToken ? 2 : 1);
        }
        refused("}\n#", 2);
        refused(" ".repeat(159) + "#", 159);
    }

    private static void letters() {
        fits("fd abcdefgh", 5);
        fits("fd abcdefgh+abcdefg", 8);
        fits("abcdefgh()to abcdefgh{}", 8);
        refused("fd abcdefghi", 11);
        refused("fd abcdefghijklmnopq", 11);
        refused("abcdefghi abcdefghi", 8);
        refused(" ".repeat(151) + "abcdefghi", 159);
        // Letters that stand together are one word.
        refused("upup", 4);
        refused("fdx 1", 4);
        fits("repeated()to repeated{}", 8);
        refused("re peat 2{}", 3);
    }

    private static void digits() {
        fits("fd 1234", 6);
        fits("fd 0000", 6);
        fits("fd 1234.5", 6);
        fits("fd 1234.56", 6);
        refused("fd 12345", 7);
        refused("fd 123456789", 7);
        refused("fd 12345.6", 7);
        refused("fd 1.234", 7);
        refused("fd 1234.567", 10);
        refused("fd 12 34", 6);
        refused(" ".repeat(155) + "12345", 159);
    }

    private static void points() {
        fits("fd 0.0", 6);
        refused("fd 1.", 4);
        refused("fd 1. 5", 4);
        refused("fd 1 .5", 5);
        refused("fd 1.a", 4);
        refused("fd .5", 3);
        refused("fd 1..5", 4);
        refused("fd 1.2.3", 6);
        refused("fd 1.23.4", 7);
        refused("fd 1234.", 7);
        refused("fd a.5", 4);
        refused("fd (1).5", 6);
        refused(".", 0);
    }

    /** What stood behind the end of a text before is no part of it. */
    private static void behindTheEnd() {
        TurtleDesk desk = Check.compiled("fd 1234.56 let abcdefgh=1");
        refusedNext(desk, "fd 1.", 4);
        refusedNext(desk, "fd", 2);
        Check.retype(desk, "fd 9.9999");
        refusedNext(desk, "fd 9.", 4);
        fitsNext(desk, "fd 9", 6);
        Check.retype(desk, "fd 99999999");
        fitsNext(desk, "fd 9999", 6);
        Check.retype(desk, "fd 99999999");
        fitsNext(desk, "fd 9", 6);
        Check.retype(desk, "fd aaaaaaaaaaaa");
        fitsNext(desk, "fd aaaaaaaa", 5);
        Check.retype(desk, "}}}}}}}}");
        fitsNext(desk, "", 1);
    }

    private static void refusedNext(TurtleDesk desk, String text, int place) {
        Check.retype(desk, text);
        Check.thrown("compile of " + text, IllegalArgumentException.class, desk::compile);
        Check.same("error of " + text, desk.error(), place);
    }

    private static void fitsNext(TurtleDesk desk, String text, int words) {
        Check.retype(desk, text);
        Check.same("compile of " + text, desk.compile(), words);
        Check.same("error of " + text, desk.error(), TurtleDesk.NONE);
    }

    /** A character of no token, then a token that may not stand, then a call that fits nothing. */
    private static void firstOfAll() {
        refused("fd fd } #", 8);
        refused("q() #", 4);
        refused("q() fd", 6);
        refused("q() }", 4);
        refused("q()let a=b+c+d+e+f+g+h+i", 23);
        refused("fd 1.2.3 let abcdefghi=2 #", 6);
        refused("fd fd } { bk", 3);
        refused("q()r()", 0);
    }

    private static void reservedWords() {
        String all = "to fd bk rt lt pen up down fill home stop let repeat while if else";
        for (String word : all.split(" ")) {
            refused("let " + word + "=1", 4);
            refused("let a=" + word, 6);
            refused("to " + word + "{}", 3);
            refused("to p " + word + "{}", 5);
            refused("p(" + word + ")to p a{}", 2);
            // With a letter more it is a name.
            fits("let " + word + "x=1", 7);
        }
    }

    private static void tokens() {
        fits("fd1rt2up", 13);
        fits("\n fd\n1 \n", 6);
        refused("5", 0);
        refused("  , up", 2);
        refused("{}", 0);
        refused("}", 0);
        refused("up}", 2);
        refused("else{}", 0);
        refused("a=1", 1);
        refused("a b", 2);
        refused("fd 1 2", 5);
        refused("fd )", 3);
        refused("fd up", 3);
        refused("fd +1", 3);
        refused("fd --1", 4);
        refused("fd 1+*2", 5);
        refused("fd 1*-2+-3--4 /", 15);
        refused("fd ()", 4);
        refused("fd (1 2)", 6);
        refused("fd (1<2)", 5);
        refused("fd 1<2", 4);
        refused("up 1", 3);
        refused("stop home()", 9);
        refused("let fd=1", 4);
        refused("let 1=1", 4);
        refused("let a 1", 6);
        refused("let a<1", 5);
        refused("let a=", 6);
        refused("repeat{}", 6);
        refused("repeat 2 up", 9);
        refused("repeat 2<3{}", 8);
        refused("repeat 2{to a{}}", 9);
        refused("while 1{}", 7);
        refused("while 1<2<3{}", 9);
        refused("while 1<{}", 8);
        refused("if 1=1 up", 7);
        refused("if 1=1{}else up", 13);
        refused("if 1=1{}else{}else{}", 14);
        refused("if 1=1{}up else{}", 11);
        refused("while 1=1{}else{}", 11);
    }

    private static void endOfText() {
        refused("fd", 2);
        refused("fd \n ", 5);
        refused("fd 1+", 5);
        refused("fd (1", 5);
        refused("fd -", 4);
        refused("a", 1);
        refused("a(1", 3);
        refused("a(", 2);
        refused("let", 3);
        refused("let a", 5);
        refused("repeat 2", 8);
        refused("repeat 2{ ", 10);
        refused("repeat 2{up", 11);
        refused("while 1", 7);
        refused("if 1=1{}else", 12);
        refused("to", 2);
        refused("to a", 4);
        refused("to a b c d", 10);
    }

    private static void definitions() {
        refused("to fd{}", 3);
        refused("to 1{}", 3);
        refused("to a(b){}", 4);
        refused("to a fd{}", 5);
        refused("to a b c d e{}", 11);
        refused("to a b b{}", 7);
        refused("to a b c b{}", 9);
        refused("to a{}to a{}", 9);
        refused("to a{}to b{}to a b{}", 15);
        refused("to a{to b{}}", 5);
        refused("to a{}}", 6);
        fits("to a{}", 4);
        fits("to a b c d{}", 4);
        fits("to a a{}to b a{}", 7);
        // The second one is told, whether it fits a call or not.
        refused("a(1)to a{}to a b{}", 13);
    }

    private static void calls() {
        fits("to a a{a(a)}to b a{}", 13);
        refused("a(,)", 2);
        refused("a(1,)", 4);
        refused("a(1 2)", 4);
        refused("a(1,2,3,4)to a b c d{}", 7);
        fits("a(1,2,3)to a b c d{}", 17);
        // The calls come last of all.
        refused("q()", 0);
        refused("up q(1)to q{}", 3);
        refused("to q{}q(1)", 6);
        refused("to q a{}q()", 8);
        refused("to q a b{up q(1,2,3)}", 12);
        refused("r(2)q(1)to q{}", 0);
        refused("to q{}q()r()q(1)", 9);
        refused("q()fd", 5);
        refused("q()to q a{}to q{}", 14);
        // A variable or a parameter of the name is no definition.
        refused("let q=1 q()", 8);
        refused("to a q{q()}", 7);
    }

    private static void variables() {
        fits("fd a+b+c+d+e+f+g+h+a", 29);
        refused("fd a+b+c+d+e+f+g+h+i", 19);
        refused("fd a+b+c+d+e+f+g+h let i=1", 23);
        refused("let a=b+c+d+e+f+g+h+i fd", 20);
        refused("fd a+b+c+d+e+f+g+h repeat i{}", 26);
        refused("fd a+b+c+d+e+f+g+h while 1<i{}", 27);
        refused("fd a+b+c+d+e+f+g+h if i>1{}", 22);
        refused("fd a+b+c+d+e+f+g+h p(h,i)to p x y{}", 23);
        refused("fd a+b+c+d+e+f+g+h to p{let i=1}", 28);
        // Parameters and names of definitions are no variables.
        fits("to p x y z{fd x+y+z}fd a+b+c+d+e+f+g+h", 39);
        fits("to p x{fd x}fd a+b+c+d+e+f+g+p", 33);
        refused("to p x{fd x}fd a+b+c+d+e+f+g+h+x", 31);
        refused("to p x{fd y+z}fd a+b+c+d+e+f+x", 29);
    }

    private static void blocks() {
        fits("repeat 2{repeat 2{repeat 2{}}}", 25);
        refused("repeat 2{repeat 2{repeat 2{repeat 2{}}}}", 35);
        refused("repeat 2{repeat 2{repeat 2{repeat 2 up", 36);
        // A block of each sort as the third and as the fourth one.
        for (String begin : new String[] {"repeat 1", "while 1=1", "if 1=1", "if 1=1{}else"}) {
            String three = "repeat 1{repeat 1{" + begin + "{up}}}";
            Check.same(three, Check.typed(three).compile() > 0, true);
            String inIf = "if 1=1{while 1=1{" + begin + "{up}}}";
            Check.same(inIf, Check.typed(inIf).compile() > 0, true);
            String inElse = "if 1=1{}else{if 1=1{}else{" + begin + "{up}}}";
            Check.same(inElse, Check.typed(inElse).compile() > 0, true);
            int wrong = begin.indexOf('{') < 0 ? begin.length() : begin.indexOf('{');
            refused("repeat 1{repeat 1{repeat 1{" + begin + "{}}}}", 27 + wrong);
            refused("if 1=1{}else{if 1=1{}else{repeat 1{" + begin + "{}}}}", 35 + wrong);
            // A definition's block is one of them.
            String inTo = "to p{repeat 1{" + begin + "{up}}}";
            Check.same(inTo, Check.typed(inTo).compile() > 0, true);
            refused("to p{repeat 1{repeat 1{" + begin + "{}}}}", 23 + wrong);
        }
        // Blocks behind one another are not in one another.
        fits("repeat 1{}repeat 1{repeat 1{}repeat 1{}}repeat 1{}", 41);
    }

    private static void brackets() {
        fits("fd (((1)))+(((2)))", 10);
        refused("fd (((1)))+(2*(3-(4-(5))))", 20);
        refused("fd (((((1)))))", 6);
        refused("fd (((-(1))))", 7);
        // Wherever an E stands; those of a call are no factor's.
        String[] begins = {
            "fd ", "bk ", "rt ", "lt ", "pen ", "let a=", "repeat ", "while ", "while 1<", "if ",
            "if 1>", "p(", "p(1,", "p(1,1,", "fd 1+", "fd 1-", "fd 2*", "fd 2/", "fd -"
        };
        String[] ends = {
            "", "", "", "", "", "", "{}", "=1{}", "{}", "=1{}",
            "{}", ",1,1)", ",1)", ")", "", "", "", "", ""
        };
        for (int k = 0; k < begins.length; k++) {
            String text = begins[k] + "(((1)))" + ends[k] + " to p x y z{}";
            Check.same(text, Check.typed(text).compile() > 0, true);
            refused(begins[k] + "((((1))))" + ends[k] + " to p x y z{}", begins[k].length() + 3);
        }
    }

    private static void codeTooLong() {
        String full = "fd1".repeat(47) + "up up";
        fits(full, 240);
        TurtleDesk desk = Check.done(full);
        Check.retype(desk, "fd");
        Check.thrown("compile", IllegalArgumentException.class, desk::compile);
        String before = Check.scene(desk);
        Check.retype(desk, "fd-1" + "fd1".repeat(46) + "up up");
        Check.thrown("compile of 241 words", IllegalStateException.class, desk::compile);
        Check.same("too many words are no error", desk.error(), -1);
        Check.same("the program before stays", desk.size(), 240);
        Check.same("and all that it did", Check.scene(desk), before);
        Check.retype(desk, "fd" + "1*".repeat(78) + "1");
        Check.thrown("compile of 316 words", IllegalStateException.class, desk::compile);
        Check.retype(desk, "fd" + "1*".repeat(76) + "1 q()");
        Check.thrown("an error comes first", IllegalArgumentException.class, desk::compile);
        Check.same("its place", desk.error(), 156);
    }

    private static void whatStays() {
        TurtleDesk desk = Check.compiled("pen 4 fd 3 let a=2 fd 2 let a=3 home");
        Check.same("run", desk.run(14), 2);
        String before = Check.scene(desk);
        String code = Check.code(desk);
        Check.retype(desk, "to q{up}repeat 2{let z=1 fd z q()}fd");
        Check.thrown("compile", IllegalArgumentException.class, desk::compile);
        Check.same("the place", desk.error(), 36);
        Check.same("the code stays", Check.code(desk), code);
        Check.same("the scene stays", Check.scene(desk), before);
        Check.same("the machine goes on where it was", desk.run(2), 2);
        Check.same("by this program", desk.run(2000), 1);
        Check.same("value", desk.value(0), 3f);
        Check.same("interpret does this program too", desk.interpret(2000), 1);
        Check.same("value", desk.value(0), 3f);
        Check.same("pixel", desk.pixel(21, 12), 4);
        Check.same("put", desk.put(' ', 1), true);
        desk.restart();
        Check.same("only a compile gives another place", desk.error(), 36);
        Check.type(desk, "7");
        Check.same("the text stays too", desk.compile(), 33);
        Check.same("an error is forgotten", desk.error(), -1);
        Check.same("a text compiles again", desk.compile(), 33);
    }
}
