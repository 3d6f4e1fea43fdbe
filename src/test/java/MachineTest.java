/** Promises 8, 9 and 15: restart, run with its fuel, its answers and traps, and value. */
public final class MachineTest {
    public static void main(String[] args) {
        fuel();
        oneByOne();
        ended();
        restart();
        arithmetic();
        comparisons();
        loops();
        calls();
        traps();
        results();
        places();
        colours();
        stack();
        wrongNumbers();
        Check.end();
    }

    /** Runs a program to its end, and expects this of variable 0. */
    private static void gives(String text, float want) {
        TurtleDesk desk = Check.done(text);
        Check.same("value after " + text, desk.value(0), want);
    }

    private static void traps(String text, int trap) {
        TurtleDesk desk = Check.compiled(text);
        Check.same("run of " + text, desk.run(2000), trap);
        String scene = Check.scene(desk);
        Check.same("run again of " + text, desk.run(2000), trap);
        Check.same("nothing is done after the trap", Check.scene(desk), scene);
    }

    private static void fuel() {
        // The words that are done: 0, 1, 18, 0, 1, 20, 27.
        TurtleDesk desk = Check.compiled("fd 6 rt 6");
        Check.same("run(2)", desk.run(2), 2);
        Check.same("x", desk.x(), 16f);
        Check.same("run(1)", desk.run(1), 2);
        Check.same("x", desk.x(), 22f);
        Check.same("run(2)", desk.run(2), 2);
        Check.same("heading", desk.heading(), 0);
        Check.same("run(1)", desk.run(1), 2);
        Check.same("heading", desk.heading(), 6);
        Check.same("the word that halts takes fuel too", desk.run(1), 1);
        // 0, 1, 28, then twice 0, 23, 14, 28, and 27.
        desk = Check.compiled("repeat 2{up}");
        Check.same("run(11)", desk.run(11), 2);
        Check.same("run(1)", desk.run(1), 1);
        // 0, 1, 2, 11, 29, 0, 1, 4, 14, 1, 2, 11, 29, 27.
        desk = Check.compiled("while 0=a{let a=1}");
        Check.same("run(13)", desk.run(13), 2);
        Check.same("run(1)", desk.run(1), 1);
        // 14, 0, 16, 0, 23, 17, 27.
        desk = Check.compiled("to p{up}p()");
        Check.same("run(6)", desk.run(6), 2);
        Check.same("run(1)", desk.run(1), 1);
        // 0, 1, 1, 13, 15, 0, 23, 14, 27.
        desk = Check.compiled("if 1=1{up}else{down}");
        Check.same("run(8)", desk.run(8), 2);
        Check.same("run(1)", desk.run(1), 1);
        desk = Check.compiled("fd 1/0");
        Check.same("run(3)", desk.run(3), 2);
        Check.same("the word that traps takes fuel", desk.run(1), 11);
        desk = Check.compiled("while 1=1{let a=a+1}");
        for (int k = 0; k < 20; k++) {
            Check.same("run(2000)", desk.run(2000), 2);
        }
        // A turn takes 10 words, and with the 0 of the while the let ends with each tenth word.
        Check.same("turns done", desk.value(0), 4000f);
    }

    /** With one fuel a run the machine does what it does with all the fuel at once. */
    private static void oneByOne() {
        String text = "to p x{repeat x{fd x rt 3}pen x}let a=3 while a>0{p(a)let a=a-1}home fill";
        TurtleDesk whole = Check.compiled(text);
        int words = 0;
        for (int fuel = 1; fuel <= 2000 && words == 0; fuel++) {
            whole.restart();
            words = whole.run(fuel) == 1 ? fuel : 0;
        }
        TurtleDesk desk = Check.compiled(text);
        for (int k = 1; k < words; k++) {
            Check.same("run of word " + k, desk.run(1), 2);
        }
        Check.same("run of the last word", desk.run(1), 1);
        Check.same("scene", Check.scene(desk), Check.scene(whole));
        Check.same("words done", words > 100, true);
    }

    private static void ended() {
        TurtleDesk desk = Check.compiled("fd 2 stop fd 3");
        Check.same("stop without a call halts", desk.run(5), 1);
        Check.same("x", desk.x(), 18f);
        Check.same("run", desk.run(2000), 1);
        Check.same("x stays", desk.x(), 18f);
        desk = Check.compiled("");
        Check.same("run", desk.run(1), 1);
        Check.same("run", desk.run(1), 1);
        desk = Check.compiled("let a=3 rt 0.5 let a=4");
        Check.same("run", desk.run(2000), 13);
        Check.same("run", desk.run(1), 13);
        Check.same("value", desk.value(0), 3f);
    }

    private static void restart() {
        TurtleDesk desk = Check.compiled("fd 3 pen 2 up rt 3 let a=2 fd a down fd 1/0");
        Check.same("run", desk.run(2000), 11);
        desk.restart();
        Check.same("all is at its beginning", Check.scene(desk), Check.scene(new TurtleDesk()));
        Check.same("run", desk.run(3), 2);
        Check.same("the pen is down and has its first colour", desk.pixel(19, 12), 1);
        desk.restart();
        Check.same("run", desk.run(2000), 11);
        desk = Check.compiled("to p{repeat 2{p()}}p()let a=1");
        for (int k = 0; k < 3; k++) {
            Check.same("the calls under way are forgotten", desk.run(2000), 14);
            desk.restart();
        }
        Check.same("run", desk.run(6), 2);
        desk.restart();
        Check.same("run begins again", desk.run(2000), 14);
        Check.same("size stays", desk.size(), 26);
        desk = Check.compiled("repeat 9{repeat 9{repeat 9{stop}}}");
        for (int k = 0; k < 30; k++) {
            Check.same("the stack is empty again", desk.run(2000), 1);
            desk.restart();
            Check.same("the stack is empty again", desk.interpret(2000), 1);
            desk.restart();
        }
    }

    private static void arithmetic() {
        gives("let a=0.1+0.2", 0.1f + 0.2f);
        gives("let a=1/3", 1f / 3f);
        gives("let a=99.99", 9999f / 100f);
        gives("let a=9999.9", 99999f / 10f);
        gives("let a=12.30", 1230f / 100f);
        gives("let a=0.7*0.7-0.49", 0.7f * 0.7f - 0.49f);
        gives("let a=7-2-1", 4f);
        gives("let a=7-(2-1)", 6f);
        gives("let a=2+3*4", 14f);
        gives("let a=8/4/2", 1f);
        gives("let a=-2*-3", 6f);
        gives("let a=2--3", 5f);
        gives("let a=-(2+3)", -5f);
        gives("let a=-0", -0.0f);
        gives("let a=0-0", 0f);
        gives("let b=0 let c=-b let a=-c", 0f);
        gives("let a=1 let a=a+a let a=a*a+a", 6f);
        gives("let a=b let b=5 let c=a", 0f);
        TurtleDesk desk = Check.done(
                "let a=1 let b=2 let c=3 let d=4 let e=5 let f=6 let g=7 let h=8");
        for (int v = 0; v < 8; v++) {
            Check.same("value " + v, desk.value(v), v + 1f);
        }
    }

    private static void comparisons() {
        for (String r : new String[] {"<", ">", "="}) {
            for (int b = 1; b <= 3; b++) {
                boolean so = r.equals("<") ? 2 < b : r.equals(">") ? 2 > b : 2 == b;
                gives("if 2" + r + b + "{let a=5}", so ? 5f : 0f);
                gives("if 2" + r + b + "{let a=5}else{let a=7}", so ? 5f : 7f);
                gives("while 2" + r + b + "{let a=5 stop}", so ? 5f : 0f);
            }
        }
        gives("if -0=0{let a=1}", 1f);
        gives("if -0<0{let a=1}", 0f);
        gives("if 0.1+0.2=0.3{let a=1}", 0.1f + 0.2f == 0.3f ? 1f : 0f);
    }

    private static void loops() {
        gives("repeat 3{let a=a+1}", 3f);
        gives("repeat 2.5{let a=a+1}", 2f);
        gives("repeat 0.99{let a=a+1}", 0f);
        gives("repeat 1{let a=a+1}", 1f);
        gives("repeat -3{let a=a+1}", 0f);
        gives("repeat 3{repeat 2{let a=a+1}let a=a+10}", 36f);
        // The E of a repeat is worked out once, that of a while each time.
        gives("let a=2 repeat a{let a=a+5}", 12f);
        gives("while a<7{let a=a+2}", 8f);
        gives("while a<3{let a=a+1 while b<a{let b=b+1}}let a=a*10+b", 33f);
    }

    private static void calls() {
        gives("to p x{let a=a+x}p(2)p(3)", 5f);
        gives("to p x y z{let a=x*100+y*10+z}p(1,2,3)", 123f);
        gives("to p x{let x=x+1 let a=a+x}p(1)p(1)", 4f);
        gives("to p x{if x>0{p(x-1)}let a=a*10+x}p(2)", 12f);
        gives("to p x y{q(y,x)let a=a+x}to q x y{let a=x-y let x=99}p(1,5)", 5f);
        gives("to p{repeat 5{repeat 5{stop}}}repeat 3{p()let a=a+1}", 3f);
        gives("to p x{while 1=1{let x=x-1 if x<0{stop}let a=a+1}}p(4)p(3)", 7f);
        gives("to p{stop let a=1}p()let a=a+5", 5f);
        gives("to p{if a<3{let a=a+1 stop}else{let a=9}}p()p()p()p()", 9f);
        gives("to p x y{if x<y{let a=a+1}}repeat 4{let b=b+1 p(2,b)}", 2f);
        gives("to p{let a=a+1}to q{p()p()}to r{q()q()}r()r()", 8f);
        gives("let a=1 to p{let a=2}", 1f);
    }

    private static void traps() {
        traps("let a=1/0", 11);
        traps("let a=0/0", 11);
        traps("let a=1/-0", 11);
        traps("fd 1/(2-2)", 11);
        traps("repeat 3{let a=a+1 let b=b/(2-a)}", 11);
        traps("let a=9999*9999", 12);
        traps("let a=-9999*9999", 12);
        traps("let a=9999/0.01", 12);
        traps("let b=0.01 repeat 12{let b=b*0.01}", 1);
        traps("let b=0.01 repeat 19{let b=b*0.1}let a=1/b", 12);
        traps("fd 984 fd 0", 1);
        traps("fd 1016", 12);
        traps("rt 0.5", 13);
        traps("lt -1.5", 13);
        traps("pen 10", 13);
        traps("pen -1", 13);
        traps("pen 2.5", 13);
        traps("pen 11", 13);
        traps("pen 9999", 13);
        traps("pen -1000*100", 13);
        traps("to p{p()}p()", 14);
        traps("to p{q()}to q{r()}to r{s()}to s{}p()", 14);
        traps("to p{q()}to q{r()}to r{}p()p()", 1);
        // Nothing is done by what traps.
        TurtleDesk desk = Check.compiled("let a=5 let b=a let a=a/0");
        Check.same("run", desk.run(2000), 11);
        Check.same("value", desk.value(0), 5f);
        desk = Check.compiled("rt 6 fd 2000");
        Check.same("run", desk.run(2000), 12);
        Check.same("y", desk.y(), 12f);
        Check.same("no line was begun", desk.pixel(16, 12), 0);
        desk = Check.compiled("rt 5 rt 1.5 rt 5");
        Check.same("run", desk.run(2000), 13);
        Check.same("heading", desk.heading(), 5);
        // The Es of a fourth call are worked out before it traps.
        traps("to p x{p(1/x)}p(0)", 11);
        desk = Check.compiled("to p x{let a=x p(x+1)}p(1)");
        Check.same("run", desk.run(2000), 14);
        Check.same("three calls were done", desk.value(0), 3f);
    }

    /** The greatest and the least result of each operation, and the floats next to them. */
    private static void results() {
        for (String sign : new String[] {"", "-"}) {
            float most = sign.isEmpty() ? 100000f : -100000f;
            gives("let a=" + sign + "9999*10 let a=a+" + sign + "10", most);
            traps("let a=" + sign + "1000*100 let a=a+" + sign + "0.01", 12);
            gives("let a=" + sign + "9999*10 let b=" + sign + "10 let a=a-(-b)", most);
            traps("let a=" + sign + "1000*100 let b=" + sign + "0.01 let a=a-(-b)", 12);
            gives("let a=" + sign + "1000*100", most);
            traps("let a=" + sign + "1000*100.01", 12);
            gives("let a=" + sign + "1000/0.01", most);
            traps("let a=" + sign + "1001/0.01", 12);
        }
        // The least step beyond, and one that single precision doesn't tell from nothing.
        traps("let a=1000*100+0.01", 12);
        gives("let a=1000*100+0.01*0.1", 100000f);
        gives("let a=-(1000*100)", -100000f);
        traps("let a=1000*100/0", 11);
    }

    /** The farthest places that the turtle comes to. */
    private static void places() {
        reaches("fd 984", 1000f, 12f);
        reaches("fd 984 fd 0.01*0.01*0.1", 1000f, 12f);
        traps("fd 984 fd 0.01*0.01", 12);
        traps("bk 1016 bk 0.01*0.01", 12);
        traps("rt 6 fd 988 fd 0.01*0.01", 12);
        traps("rt 6 bk 1012 bk 0.01*0.01", 12);
        traps("fd 984.01", 12);
        reaches("bk 1016", -1000f, 12f);
        traps("bk 1016.1", 12);
        reaches("rt 6 fd 988", 16f, 1000f);
        traps("rt 6 fd 988.1", 12);
        reaches("rt 6 bk 1012", 16f, -1000f);
        traps("rt 18 fd 1012.1", 12);
        traps("up fd 9999", 12);
    }

    /** The values that PEN, RT and LT take, and those next to them that they don't. */
    private static void colours() {
        for (String text : new String[] {"pen 0", "pen -0", "pen 9", "pen 0.5+0.5", "pen 9.00",
            "rt 0", "rt -0", "lt -0", "rt 1000*100", "lt 1000*100", "rt -1000*100", "lt -24"}) {
            Check.done(text);
        }
        for (String text : new String[] {"pen -0.01", "pen 0.01", "pen 8.99", "pen 9.01", "pen 10",
            "pen -1", "pen 1000*100", "rt 0.01", "rt -0.01", "lt 23.99", "lt 999.5", "rt 9999.99",
            "rt 0.1*0.1*0.1*0.1", "pen 0.1*0.1*0.1*0.1"}) {
            traps(text, 13);
        }
    }

    private static void reaches(String text, float x, float y) {
        TurtleDesk desk = Check.done(text);
        Check.same("x after " + text, desk.x(), x);
        Check.same("y after " + text, desk.y(), y);
    }

    /**
     * Nine repeats, two Es and an E that lies as deep as can be put 20 values on the stack, and no
     * text puts more; so trap 15, which StackTest forces, must not come too early.
     */
    private static void stack() {
        String deep = "1+1*(1+1*(1+1*(1+1*1)))";
        String text = "to p x y z{repeat 1{repeat 1{p(1,1," + deep + ")}}}"
                + "repeat 1{repeat 1{repeat 1{p(1,1,1)}}}";
        traps(text, 14);
        Check.same("interpret of " + text, Check.compiled(text).interpret(2000), 14);
        gives("let a=" + deep, 5f);
        // What repeats left on the stack goes with the call that stop ends.
        text = "to p{repeat 9{repeat 9{stop}}}repeat 200{p()let a=a+1}";
        TurtleDesk desk = Check.compiled(text);
        desk.run(2000);
        Check.same("run", desk.run(2000), 1);
        Check.same("value", desk.value(0), 200f);
        Check.same("interpret", desk.interpret(2000), 1);
        Check.same("value", desk.value(0), 200f);
    }

    private static void wrongNumbers() {
        TurtleDesk desk = Check.compiled("let a=a+1 let b=2");
        for (int fuel : new int[] {0, -1, 2001, Integer.MIN_VALUE, Integer.MAX_VALUE}) {
            Check.thrown("run " + fuel, IllegalArgumentException.class, () -> desk.run(fuel));
        }
        Check.same("run with the least fuel", desk.run(1), 2);
        Check.same("a call that throws does nothing", desk.value(0), 0f);
        Check.same("run with the most fuel", desk.run(2000), 1);
        Check.thrown("run of an ended machine", IllegalArgumentException.class, () -> desk.run(0));
        for (int v : new int[] {-1, 8, 9, Integer.MIN_VALUE, Integer.MAX_VALUE}) {
            Check.thrown("value " + v, IndexOutOfBoundsException.class, () -> desk.value(v));
        }
        Check.same("value", desk.value(1), 2f);
    }
}
