/** Promises 11 to 14: the pixels, lines, regions and the turtle's place and heading. */
public final class PictureTest {
    private static final float[] SINES = {
        0f, 0.25881904f, 0.5f, 0.70710677f, 0.8660254f, 0.9659258f, 1f,
        0.9659258f, 0.8660254f, 0.70710677f, 0.5f, 0.25881904f
    };

    public static void main(String[] args) {
        edges();
        directions();
        turns();
        nearestPixels();
        betweenPixels();
        edgesOfLines();
        slantedLines();
        allLines();
        pen();
        home();
        fill();
        fillStopsAtCorners();
        fillStopsAtEdges();
        fillOfOnePixel();
        Check.end();
    }

    private static float sine(int heading) {
        int h = heading % 24;
        return h < 12 ? SINES[h] : -SINES[h - 12];
    }

    private static void edges() {
        TurtleDesk desk = Check.done("pen 7 fill");
        int[] outside = {-1, -2, Integer.MIN_VALUE, Integer.MAX_VALUE};
        for (int far : outside) {
            Check.same("pixel", desk.pixel(far, 0), TurtleDesk.NONE);
            Check.same("pixel", desk.pixel(0, far), TurtleDesk.NONE);
        }
        Check.same("right of the picture", desk.pixel(32, 5), TurtleDesk.NONE);
        Check.same("below the picture", desk.pixel(5, 24), TurtleDesk.NONE);
        Check.same("the picture", Check.picture(desk), ("7".repeat(32) + "\n").repeat(24));
    }

    private static void directions() {
        for (int h = 0; h < 24; h++) {
            float x = 16f + 8.3f * sine(h + 6);
            float y = 12f + 8.3f * sine(h);
            TurtleDesk desk = Check.done("rt " + h + " fd 8.3");
            Check.same("x at " + h, desk.x(), x);
            Check.same("y at " + h, desk.y(), y);
            Check.same("heading", desk.heading(), h);
            Check.same("the line begins", desk.pixel(16, 12), 1);
            int a = (int) Math.floor(x + 0.5f);
            int b = (int) Math.floor(y + 0.5f);
            Check.same("the line ends at " + h, desk.pixel(a, b), 1);
            desk = Check.done("rt " + h + " up bk 8.3");
            Check.same("x back at " + h, desk.x(), 16f + -8.3f * sine(h + 6));
            Check.same("y back at " + h, desk.y(), 12f + -8.3f * sine(h));
        }
        // A sum in single precision at each step.
        TurtleDesk desk = Check.done("rt 1 repeat 9{fd 0.7}");
        float x = 16f;
        float y = 12f;
        for (int k = 0; k < 9; k++) {
            x = x + 0.7f * 0.9659258f;
            y = y + 0.7f * 0.25881904f;
        }
        Check.same("x", desk.x(), x);
        Check.same("y", desk.y(), y);
    }

    private static void turns() {
        heads("rt 23", 23);
        heads("rt 24", 0);
        heads("rt -1", 23);
        heads("lt 1", 23);
        heads("lt 25", 23);
        heads("lt -25", 1);
        heads("rt 9999", 15);
        heads("lt 9999", 9);
        heads("rt 1000*100", 16);
        heads("rt 0", 0);
        heads("rt -0", 0);
        heads("rt 20 rt 7 lt 5", 22);
        heads("rt 0.5+0.5", 1);
    }

    private static void heads(String text, int heading) {
        TurtleDesk desk = Check.done(text);
        Check.same("heading after " + text, desk.heading(), heading);
        Check.same("x after " + text, desk.x(), 16f);
    }

    private static void nearestPixels() {
        line("fd 0", "16,12");
        line("fd 0.4", "16,12");
        line("fd 0.5", "16,12 17,12");
        line("bk 0.5", "16,12");
        line("bk 0.6", "16,12 15,12");
        line("rt 6 fd 1.49", "16,12 16,13");
        line("rt 6 bk 2.5", "16,12 16,11 16,10");
        line("up bk 16.4 down fd 1", "0,12 1,12");
        line("up bk 16.6 down fd 0.9", "0,12");
        line("up bk 16.6 down fd 0", "");
        line("up fd 15.4 down fd 0.2", "31,12");
        line("up fd 15.5 down fd 9", "");
        line("up rt 6 fd 11.5 down fd 3", "");
        line("up rt 6 bk 12.6 down bk 3", "");
        // What lies outside is left out, and the line comes in again.
        line("up rt 6 bk 15 down fd 5", "16,0 16,1 16,2");
    }

    /** A place as near as can be to where one pixel ends and the next begins. */
    private static void betweenPixels() {
        String little = "0.01*0.01*0.02 ";
        line("up fd 15.5 bk " + little + "down fd 0", "31,12");
        line("up fd 15.5 down fd 0", "");
        line("up rt 6 fd 11.5 bk " + little + "down fd 0", "16,23");
        line("up rt 6 fd 11.5 down fd 0", "");
        // Half a pixel below 0 is still pixel 0, and what lies below is not.
        String least = "0.01*0.01*0.01*0.05 ";
        line("up bk 16.5 down fd 0", "0,12");
        line("up bk 16.5 bk " + least + "down fd 0", "");
        line("up rt 6 bk 12.5 down fd 0", "16,0");
        line("up rt 6 bk 12.5 bk " + least + "down fd 0", "");
        // In single precision the float below 0.5 and 0.5 come to 1.
        TurtleDesk desk = Check.done("up bk 15.5 bk 0.01*0.01*0.01*0.03 down fd 0 fill");
        Check.same("x", desk.x(), Math.nextDown(0.5f));
        line("up bk 15.5 bk 0.01*0.01*0.01*0.03 down fd 0", "1,12");
        line("up rt 6 bk 11.5 bk 0.01*0.01*0.01*0.03 down fd 0", "16,1");
    }

    /** A line that leaves the picture goes on nowhere else in it. */
    private static void edgesOfLines() {
        line("up fd 14 down fd 5", "30,12 31,12");
        line("up bk 14 down bk 5", "2,12 1,12 0,12");
        line("up rt 6 fd 10 down fd 30", "16,22 16,23");
        line("up rt 6 bk 10 down bk 30", "16,2 16,1 16,0");
        line("up fd 15 rt 6 fd 11 rt 21 down fd 9", "31,23");
        line("up fd 300 lt 6 fd 5 down fd 50", "");
    }

    private static void slantedLines() {
        line("rt 2 fd 4", "16,12 17,13 18,13 19,14");
        line("lt 4 fd 5", "16,12 17,11 17,10 18,9 19,8");
        line("rt 3 fd 3", "16,12 17,13 18,14");
        line("rt 9 fd 3", "16,12 15,13 14,14");
    }

    /** Draws with colour 1, and expects these pixels and no others. */
    private static void line(String text, String pixels) {
        TurtleDesk desk = Check.done(text);
        int[][] want = new int[24][32];
        for (String pixel : pixels.split(" ")) {
            String[] p = pixel.split(",");
            if (p.length == 2) {
                want[Integer.parseInt(p[1])][Integer.parseInt(p[0])] = 1;
            }
        }
        compare("line of " + text, desk, want);
    }

    private static void compare(String what, TurtleDesk desk, int[][] want) {
        StringBuilder all = new StringBuilder();
        for (int[] row : want) {
            for (int colour : row) {
                all.append(colour);
            }
            all.append('\n');
        }
        Check.same(what, Check.picture(desk), all.toString());
    }

    /** Lines of many lengths in each direction, drawn as the document says. */
    private static void allLines() {
        for (int h = 0; h < 24; h++) {
            for (int d = 1; d < 40; d += 3) {
                TurtleDesk desk = Check.done("rt " + h + " fd " + d);
                int[][] want = new int[24][32];
                int c = (int) Math.floor(desk.x() + 0.5f);
                int e = (int) Math.floor(desk.y() + 0.5f);
                draw(want, c, e);
                compare("line at " + h + " of " + d, desk, want);
            }
        }
    }

    private static void draw(int[][] want, int c, int d) {
        int a = 16;
        int b = 12;
        int u = Math.abs(c - a);
        int v = Math.abs(d - b);
        int e = u - v;
        while (true) {
            if (a >= 0 && a < 32 && b >= 0 && b < 24) {
                want[b][a] = 1;
            }
            if (a == c && b == d) {
                return;
            }
            int f = 2 * e;
            if (f > -v) {
                e = e - v;
                a += Integer.signum(c - a);
            }
            if (f < u) {
                e = e + u;
                b += Integer.signum(d - b);
            }
        }
    }

    private static void pen() {
        for (int colour = 0; colour < 10; colour++) {
            TurtleDesk desk = Check.done("fd 2 pen " + colour + " fd 2");
            Check.same("before", desk.pixel(17, 12), 1);
            Check.same("behind", desk.pixel(18, 12), colour);
            Check.same("behind", desk.pixel(20, 12), colour);
        }
        TurtleDesk desk = Check.done("pen 3 up fd 3 pen -0+4 down up down fd 2 up fd 9 bk 1");
        Check.same("up", desk.pixel(17, 12), 0);
        Check.same("down", desk.pixel(19, 12), 4);
        Check.same("down", desk.pixel(21, 12), 4);
        Check.same("up again", desk.pixel(22, 12), 0);
        Check.same("x", desk.x(), 29f);
        line("pen 5 pen 1 fd 1", "16,12 17,12");
    }

    private static void home() {
        TurtleDesk desk = Check.done("up fd 5 pen 3 rt 7 down home");
        Check.same("x", desk.x(), 16f);
        Check.same("y", desk.y(), 12f);
        Check.same("heading", desk.heading(), 0);
        Check.same("nothing is drawn", Check.picture(desk).contains("3"), false);
        desk = Check.done("pen 3 up home fd 2 down fd 1");
        Check.same("the pen stays up", desk.pixel(17, 12), 0);
        Check.same("and has its colour", desk.pixel(18, 12), 3);
        Check.same("and goes down", desk.pixel(19, 12), 3);
    }

    private static void fill() {
        String box = "repeat 4{fd 6 rt 6}up fd 3 rt 6 fd 3 ";
        TurtleDesk desk = Check.done(box + "pen 3 fill");
        for (int y = 0; y < 24; y++) {
            for (int x = 0; x < 32; x++) {
                boolean in = x >= 16 && x <= 22 && y >= 12 && y <= 18;
                boolean edge = in && (x == 16 || x == 22 || y == 12 || y == 18);
                Check.same("pixel " + x + " " + y, desk.pixel(x, y), edge ? 1 : in ? 3 : 0);
            }
        }
        desk = Check.done(box + "bk 9 pen 4 fill");
        Check.same("around", desk.pixel(0, 23), 4);
        Check.same("around", desk.pixel(31, 0), 4);
        Check.same("inside", desk.pixel(18, 14), 0);
        Check.same("the box", desk.pixel(16, 12), 1);
        desk = Check.done(box + "home pen 5 fill");
        Check.same("the box itself", desk.pixel(22, 18), 5);
        Check.same("inside", desk.pixel(18, 14), 0);
        desk = Check.done(box + "pen 0 fill pen 2 fill pen 2 fill");
        Check.same("the colour that is there", desk.pixel(18, 14), 2);
        String nothing = ("0".repeat(32) + "\n").repeat(24);
        for (String away : new String[] {
            "fd 15.5", "bk 16.6", "rt 6 fd 11.5", "rt 6 bk 12.6", "fd 900", "rt 6 bk 900"}) {
            desk = Check.done("up " + away + " pen 3 fill");
            Check.same("fill away by " + away, Check.picture(desk), nothing);
        }
        desk = Check.done("up bk 16.5 pen 3 rt 6 bk 12.5 fill");
        Check.same("fill from the corner", desk.pixel(31, 23), 3);
        desk = Check.done("up fd 15.4 pen 3 rt 6 fd 11.4 fill");
        Check.same("fill from the other corner", desk.pixel(0, 0), 3);
    }

    /** A slanted line of pixels that touch at their corners divides the picture. */
    private static void fillStopsAtCorners() {
        String slant = "up rt 15 fd 17 rt 12 down fd 34 home ";
        TurtleDesk desk = Check.done(slant + "up fd 5 pen 3 fill");
        Check.same("this side", desk.pixel(31, 0), 3);
        Check.same("the other side", desk.pixel(0, 23), 0);
        Check.same("the line", desk.pixel(4, 0), 1);
        Check.same("the line", desk.pixel(27, 23), 1);
        desk = Check.done(slant + "pen 5 fill");
        Check.same("one pixel of the line", desk.pixel(16, 12), 5);
        Check.same("the next", desk.pixel(17, 13), 1);
    }

    /** The right end of a row is not side by side with the left end of the next one. */
    private static void fillStopsAtEdges() {
        TurtleDesk desk = Check.done("up rt 6 bk 12 down fd 23 home up fd 5 pen 3 fill");
        for (int y = 0; y < 24; y++) {
            for (int x = 0; x < 32; x++) {
                Check.same("pixel " + x + " " + y, desk.pixel(x, y), x < 16 ? 0 : x == 16 ? 1 : 3);
            }
        }
        desk = Check.done("up bk 16 down fd 31 home up rt 6 bk 5 pen 3 fill");
        for (int y = 0; y < 24; y++) {
            for (int x = 0; x < 32; x++) {
                Check.same("pixel " + x + " " + y, desk.pixel(x, y), y < 12 ? 3 : y == 12 ? 1 : 0);
            }
        }
    }

    private static void fillOfOnePixel() {
        line("fill up fd 5 pen 0 fill home pen 1 down fd 0", "16,12");
        String around = "pen 0 fill pen 1 repeat 4{fd 2 rt 6}up fd 1 rt 6 fd 1 ";
        TurtleDesk desk = Check.done(around + "pen 7 fill");
        for (int y = 11; y < 16; y++) {
            for (int x = 15; x < 20; x++) {
                boolean in = x >= 16 && x <= 18 && y >= 12 && y <= 14;
                int want = x == 17 && y == 13 ? 7 : in ? 1 : 0;
                Check.same("pixel " + x + " " + y, desk.pixel(x, y), want);
            }
        }
        // The pen may be up, and no turtle is needed on the pixels that are reached.
        desk = Check.done(around + "pen 1 fill pen 7 fill");
        Check.same("the box and what it held", desk.pixel(16, 12), 7);
        Check.same("around", desk.pixel(15, 12), 0);
    }
}
