import java.lang.management.ManagementFactory;

/** The 512 calls of one object: the dearest ones, and what room they take. */
public final class RoomTest {
    private static final int CALLS = 512;
    /** A run has room for 7.3 million fields and elements, none smaller than a byte. */
    private static final long BYTES = 7_300_000;

    public static void main(String[] args) {
        compiles("up ".repeat(53) + "\n", 107);
        compiles("q()".repeat(50) + "to q{}", 204);
        compiles("fd1".repeat(47) + "up up", 240);
        runs("repeat 99{repeat 9{repeat 9{fill}}}", 2);
        runs("while 1=1{fd 984 bk 984}", 2);
        runs("to p{repeat 99{repeat 99{up}}}p()", 2);
        refusals();
        Check.end();
    }

    private static void compiles(String text, int words) {
        long before = allocated();
        TurtleDesk desk = new TurtleDesk();
        int calls = put(desk, text);
        int wrong = 0;
        while (calls < CALLS) {
            wrong += desk.compile() == words ? 0 : 1;
            calls++;
        }
        Check.same("wrong answers of " + text, wrong, 0);
        Check.same("room of " + text, allocated() - before < BYTES, true);
    }

    private static void runs(String text, int answer) {
        long before = allocated();
        TurtleDesk desk = new TurtleDesk();
        int calls = put(desk, text) + 1;
        desk.compile();
        int wrong = 0;
        while (calls + 3 <= CALLS) {
            wrong += desk.interpret(2000) == answer ? 0 : 1;
            desk.restart();
            wrong += desk.run(2000) == answer ? 0 : 1;
            calls += 3;
        }
        Check.same("wrong answers of " + text, wrong, 0);
        Check.same("room of " + text, allocated() - before < BYTES / 10, true);
    }

    private static void refusals() {
        TurtleDesk desk = new TurtleDesk();
        int calls = put(desk, "up ".repeat(52) + "fd");
        while (calls < CALLS) {
            Check.thrown("compile", IllegalArgumentException.class, desk::compile);
            calls++;
        }
        Check.same("error", desk.error(), 158);
    }

    /** Puts a text with as few calls as can be; answers how many. */
    private static int put(TurtleDesk desk, String text) {
        int calls = 0;
        for (int k = 0; k < text.length(); k += 4) {
            int n = Math.min(4, text.length() - k);
            int word = 0;
            for (int i = k; i < k + n; i++) {
                word = word << 8 | text.charAt(i);
            }
            Check.same("put", desk.put(word, n), true);
            calls++;
        }
        return calls;
    }

    private static long allocated() {
        java.lang.management.ThreadMXBean threads = ManagementFactory.getThreadMXBean();
        return threads instanceof com.sun.management.ThreadMXBean counting
                ? counting.getCurrentThreadAllocatedBytes() : 0;
    }
}
