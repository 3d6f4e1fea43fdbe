/** Promise 10: interpret, by itself and beside run. */
public final class InterpretTest {
    public static void main(String[] args) {
        fuel();
        fuelWithinLoops();
        fuelAndTraps();
        beginning();
        endOfMachine();
        stops();
        traps();
        wrongNumbers();
        sameAsRun();
        Check.end();
    }

    /** The program needs just so much fuel. */
    private static void needs(String text, int fuel) {
        TurtleDesk desk = Check.compiled(text);
        if (fuel > 1) {
            Check.same("too little for " + text, desk.interpret(fuel - 1), 2);
        }
        Check.same("enough for " + text, desk.interpret(fuel), 1);
        Check.same("plenty for " + text, desk.interpret(2000), 1);
    }

    private static void fuel() {
        needs("", 1);
        needs("up", 1);
        needs("up down", 2);
        needs("fd 1+2*(3-4)/5", 1);
        needs("to p{up up up}", 1);
        needs("to p{up}p()", 2);
        needs("to p{}p()p()", 2);
        needs("repeat 0{up}", 1);
        needs("repeat 0.99{up}", 1);
        needs("repeat -1{up}", 1);
        needs("repeat 1{up}", 3);
        needs("repeat 1.99{up}", 3);
        needs("repeat 3{}", 4);
        needs("repeat 3{up}", 7);
        needs("repeat 2.9{up down}", 7);
        needs("repeat 2{repeat 2{up}}", 13);
        needs("while 1<0{up}", 1);
        needs("while a<2{let a=a+1}", 5);
        needs("if 1=1{up}", 2);
        needs("if 1=2{up}", 1);
        needs("if 1=2{up}else{up down}", 3);
        needs("stop up", 1);
        needs("repeat 9{stop}", 3);
        needs("let a=1 let a=2", 2);
        needs("to p x{if x>0{p(x-1)}}p(2)", 6);
        needs("repeat 1999{}", 2000);
        needs("repeat 999{up}", 1999);
        Check.same("too many turns", Check.compiled("repeat 2000{}").interpret(2000), 2);
        Check.same("no end", Check.compiled("while 1=1{}").interpret(2000), 2);
    }

    /** A statement or a turn without fuel does nothing, and what was done before it stays. */
    private static void fuelWithinLoops() {
        int[] turnsDone = {0, 0, 1, 1, 2};
        for (String loop : new String[] {"repeat 2{let a=a+1}", "while a<2{let a=a+1}"}) {
            TurtleDesk desk = Check.compiled(loop);
            for (int fuel = 1; fuel <= 5; fuel++) {
                Check.same(loop + " by " + fuel, desk.interpret(fuel), fuel < 5 ? 2 : 1);
                Check.same(loop + " by " + fuel, desk.value(0), (float) turnsDone[fuel - 1]);
            }
        }
        TurtleDesk desk = Check.compiled("to p x{let a=x}p(3)if a=3{let a=4}else{let a=5}");
        float[] values = {0f, 3f, 3f, 4f};
        for (int fuel = 1; fuel <= 4; fuel++) {
            Check.same("interpret " + fuel, desk.interpret(fuel), fuel < 4 ? 2 : 1);
            Check.same("value by " + fuel, desk.value(0), values[fuel - 1]);
        }
    }

    private static void fuelAndTraps() {
        TurtleDesk desk = Check.compiled("up fd 1/0");
        Check.same("a statement begins with fuel only", desk.interpret(1), 2);
        Check.same("and traps then", desk.interpret(2), 11);
        // The condition is worked out before its turn needs fuel.
        desk = Check.compiled("while 1/(1-a)=1{let a=1}");
        Check.same("interpret(2)", desk.interpret(2), 2);
        Check.same("interpret(3)", desk.interpret(3), 11);
        desk = Check.compiled("let a=1 fd 2 fd 3 let a=4");
        Check.same("interpret(3)", desk.interpret(3), 2);
        Check.same("what was done stays", desk.x(), 21f);
        Check.same("what was done stays", desk.value(0), 1f);
    }

    private static void beginning() {
        TurtleDesk desk = Check.compiled("let a=a+1 fd 3 pen 4 up rt 2 fill");
        desk.run(13);
        Check.same("interpret", desk.interpret(100), 1);
        String scene = Check.scene(desk);
        Check.same("value", desk.value(0), 1f);
        Check.same("x", desk.x(), 19f);
        Check.same("the pen was down", desk.pixel(18, 12), 4);
        Check.same("interpret again", desk.interpret(100), 1);
        Check.same("all was at its beginning", Check.scene(desk), scene);
        Check.same("interpret too little", desk.interpret(1), 2);
        Check.same("x", desk.x(), 16f);
        Check.same("pixel", desk.pixel(16, 12), 0);
    }

    private static void endOfMachine() {
        TurtleDesk desk = Check.compiled("fd 1 fd 2 fd 3");
        Check.same("interpret", desk.interpret(2), 2);
        String scene = Check.scene(desk);
        Check.same("the machine has ended", desk.run(2000), 2);
        Check.same("the machine has ended", desk.run(1), 2);
        Check.same("and does nothing", Check.scene(desk), scene);
        desk.restart();
        Check.same("a restart begins", desk.run(3), 2);
        Check.same("x", desk.x(), 17f);
        Check.same("run goes on", desk.run(2000), 1);
        Check.same("x", desk.x(), 22f);
        Check.same("interpret", desk.interpret(3), 1);
        Check.same("run after it", desk.run(1), 1);
        Check.same("interpret", desk.interpret(1), 2);
        Check.same("compile begins too", desk.compile(), 16);
        Check.same("run after it", desk.run(2000), 1);
        desk = Check.compiled("to p{p()}p()");
        Check.same("interpret", desk.interpret(5), 14);
        Check.same("run after it", desk.run(1), 14);
        desk.restart();
        Check.same("run after a restart", desk.run(1), 2);
    }

    private static void stops() {
        does("to p{repeat 5{repeat 5{stop}}}repeat 3{p()fd 1}", 19f);
        does("to p{if 1=1{stop}fd 9}p()fd 1 stop fd 9", 17f);
        does("to p{while 1=1{fd 1 if a=2{stop}let a=a+1}}p()fd 3", 22f);
        does("to p{q()fd 1}to q{stop fd 9}p()fd 1", 18f);
        does("repeat 3{fd 1 stop}fd 9", 17f);
        // A stop leaves a while before its E R E is worked out again.
        does("let a=1 while 1/a=1{fd 1 let a=0 stop}", 17f);
        does("to p{let a=1 while 1/a=1{fd 1 let a=0 if 1=1{stop}}}p()fd 1", 18f);
    }

    private static void does(String text, float x) {
        TurtleDesk desk = Check.compiled(text);
        for (int turn = 0; turn < 2; turn++) {
            Check.same("interpret of " + text, desk.interpret(2000), 1);
            Check.same("x after " + text, desk.x(), x);
        }
    }

    private static void traps() {
        String[] texts = {
            "let a=1/0", "while 1/0=1{}", "repeat 1/0{}", "to p x{}p(1/0)", "if 1=1/0{}",
            "let a=999*999", "fd 985", "let a=-1000*100-1",
            "rt 1.5", "lt 0.1", "pen 10", "pen -1", "pen 0.5",
            "to p{p()}p()", "to p x{p(x)fd 1}repeat 2{p(1)}"
        };
        int[] due = {11, 11, 11, 11, 11, 12, 12, 12, 13, 13, 13, 13, 13, 14, 14};
        for (int k = 0; k < texts.length; k++) {
            TurtleDesk desk = Check.compiled(texts[k] + "fd 5 let h=1");
            Check.same("interpret of " + texts[k], desk.interpret(2000), due[k]);
            Check.same("x after " + texts[k], desk.x(), 16f);
            Check.same("value after " + texts[k], desk.value(0), 0f);
            Check.same("nothing is drawn", desk.pixel(16, 12), 0);
            Check.same("run after " + texts[k], desk.run(1), due[k]);
        }
    }

    private static void wrongNumbers() {
        TurtleDesk desk = Check.compiled("fd 1");
        desk.run(3);
        for (int fuel : new int[] {0, -1, 2001, Integer.MIN_VALUE, Integer.MAX_VALUE}) {
            Check.thrown("interpret " + fuel, IllegalArgumentException.class,
                    () -> desk.interpret(fuel));
        }
        Check.same("a call that throws does nothing", desk.x(), 17f);
        Check.same("run goes on", desk.run(1), 1);
    }

    /** Programs made by a fixed rule come to the same scene in both ways. */
    private static void sameAsRun() {
        Programs programs = new Programs(20261119);
        int ended = 0;
        for (int k = 0; k < 3000; k++) {
            String text = programs.next();
            TurtleDesk desk = Check.typed(text);
            try {
                desk.compile();
            } catch (IllegalStateException e) {
                continue;
            }
            int direct = desk.interpret(2000);
            String scene = Check.scene(desk);
            desk.restart();
            int stepped = 2;
            for (int turn = 0; turn < 60 && stepped == 2; turn++) {
                stepped = desk.run(2000);
            }
            if (direct != 2) {
                ended++;
                Check.same("run of " + text, stepped, direct);
                Check.same("scene of " + text, Check.scene(desk), scene);
            }
        }
        Check.same("most programs end", ended > 1500, true);
    }
}
