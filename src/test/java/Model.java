import java.util.ArrayDeque;
import java.util.ArrayList;
import java.util.Arrays;
import java.util.List;
import java.util.regex.Matcher;
import java.util.regex.Pattern;

/**
 * The document read once more, in another way than the class does it: the text is split by a
 * pattern, the words are written while it is read, and to interpret is to run the words with fuel
 * taken where a statement or a turn begins. It has no limits of room and no face to keep.
 */
final class Model {
    private static final Pattern TOKEN =
            Pattern.compile("[a-z]{1,8}|[0-9]{1,4}(\\.[0-9]{1,2})?|[{}()+*/<>=,-]|[ \n]");
    private static final List<String> RESERVED = List.of(
            "to fd bk rt lt pen up down fill home stop let repeat while if else".split(" "));
    private static final List<String> WITH_E = List.of("fd", "bk", "rt", "lt", "pen");
    private static final List<String> BARE = List.of("up", "down", "fill", "home");
    private static final float[] S = {
        0f, 0.25881904f, 0.5f, 0.70710677f, 0.8660254f, 0.9659258f, 1f
    };

    /** An error of a text, by its place. */
    static final class Wrong extends RuntimeException {
        private static final long serialVersionUID = 1;
        final int place;

        Wrong(int place) {
            this.place = place;
        }
    }

    private record Token(String text, int place) {
    }

    private record Definition(String name, int block, int count) {
    }

    private record Call(Token name, int place, int count) {
    }

    private record Frame(int behind, int height, float[] parameters) {
    }

    private List<Token> tokens = List.of();
    private int at = 0;
    private int blocks = 0;
    private int brackets = 0;
    private final List<String> variableNames = new ArrayList<>();
    private List<String> parameterNames = List.of();
    private final List<Definition> definitions = new ArrayList<>();
    private final List<Call> callsToFind = new ArrayList<>();
    private final List<Integer> words = new ArrayList<>();

    private final ArrayList<Float> stack = new ArrayList<>();
    private final ArrayDeque<Frame> frames = new ArrayDeque<>();
    final float[] values = new float[8];
    final int[][] picture = new int[24][32];
    float x = 16f;
    float y = 12f;
    int heading = 0;
    private int colour = 1;
    private boolean down = true;
    private int place = 0;
    /** What run answers once the machine has ended, else 0. */
    int ended = 0;

    /** Answers the words of a text; throws Wrong when it has an error. */
    static int[] wordsOf(String text) {
        Model reader = new Model();
        reader.readText(text);
        return reader.words.stream().mapToInt(Integer::intValue).toArray();
    }

    /** A machine at its beginning. */
    static Model machine(int[] words) {
        Model machine = new Model();
        for (int w : words) {
            machine.words.add(w);
        }
        return machine;
    }

    private void readText(String text) {
        tokens = split(text);
        while (!see("")) {
            if (see("to")) {
                definition();
            } else {
                statement();
            }
        }
        words.add(27);
        for (Call call : callsToFind) {
            Definition found = definitionOf(call.name.text);
            if (found == null || found.count != call.count) {
                throw new Wrong(call.name.place);
            }
            words.set(call.place, found.block);
        }
    }

    private static List<Token> split(String text) {
        List<Token> all = new ArrayList<>();
        Matcher matcher = TOKEN.matcher(text);
        int from = 0;
        while (from < text.length()) {
            if (!matcher.region(from, text.length()).lookingAt()) {
                throw new Wrong(from);
            }
            String token = matcher.group();
            from = matcher.end();
            String joined = "" + token.charAt(0) + (from < text.length() ? text.charAt(from) : ' ');
            if (joined.matches("[a-z][a-z]|[0-9][0-9]")) {
                throw new Wrong(from);
            }
            if (!token.isBlank()) {
                all.add(new Token(token, matcher.start()));
            }
        }
        all.add(new Token("", text.length()));
        return all;
    }

    private boolean see(String text) {
        return tokens.get(at).text.equals(text);
    }

    private boolean seeName() {
        String text = tokens.get(at).text;
        return text.matches("[a-z]+") && !RESERVED.contains(text);
    }

    private Token take(boolean may) {
        if (!may) {
            throw new Wrong(tokens.get(at).place);
        }
        return tokens.get(at++);
    }

    private Definition definitionOf(String name) {
        return definitions.stream().filter(d -> d.name.equals(name)).findFirst().orElse(null);
    }

    private void definition() {
        take(see("to"));
        String name = take(seeName() && definitionOf(tokens.get(at).text) == null).text;
        List<String> told = new ArrayList<>();
        while (seeName()) {
            told.add(take(told.size() < 3 && !told.contains(tokens.get(at).text)).text);
        }
        int behind = jump(14);
        definitions.add(new Definition(name, words.size(), told.size()));
        parameterNames = told;
        block();
        parameterNames = List.of();
        words.add(17);
        words.set(behind, words.size());
    }

    private int jump(int word) {
        words.add(word);
        words.add(-1);
        return words.size() - 1;
    }

    private void block() {
        take(see("{") && blocks < 3);
        blocks++;
        while (!see("}")) {
            statement();
        }
        blocks--;
        take(true);
    }

    private void statement() {
        words.add(0);
        int begin = words.size();
        Token first = take(seeName() || RESERVED.contains(tokens.get(at).text)
                && !see("to") && !see("else"));
        if (WITH_E.contains(first.text)) {
            sum();
            words.add(18 + WITH_E.indexOf(first.text));
        } else if (BARE.contains(first.text)) {
            words.add(23 + BARE.indexOf(first.text));
        } else if (first.text.equals("stop")) {
            words.add(17);
        } else if (first.text.equals("let")) {
            let();
        } else if (first.text.equals("repeat")) {
            sum();
            loop(28, words.size());
        } else if (first.text.equals("while")) {
            condition();
            loop(29, begin);
        } else if (first.text.equals("if")) {
            choice();
        } else {
            call(first);
        }
    }

    private void let() {
        int[] pair = name(4);
        take(see("="));
        sum();
        words.add(pair[0]);
        words.add(pair[1]);
    }

    private void loop(int word, int back) {
        int behind = jump(word);
        block();
        words.add(14);
        words.add(back);
        words.set(behind, words.size());
    }

    private void choice() {
        condition();
        int otherwise = jump(15);
        block();
        if (see("else")) {
            take(true);
            int behind = jump(14);
            words.set(otherwise, words.size());
            block();
            words.set(behind, words.size());
        } else {
            words.set(otherwise, words.size());
        }
    }

    private void call(Token name) {
        take(see("("));
        int count = 0;
        while (!see(")")) {
            if (count > 0) {
                take(count < 3 && see(","));
            }
            sum();
            count++;
        }
        take(true);
        callsToFind.add(new Call(name, jump(16), count));
        words.add(count);
    }

    private void condition() {
        sum();
        String sign = take(see("<") || see(">") || see("=")).text;
        sum();
        words.add(11 + "<>=".indexOf(sign));
    }

    private void sum() {
        product();
        while (see("+") || see("-")) {
            int word = take(true).text.equals("+") ? 6 : 7;
            product();
            words.add(word);
        }
    }

    private void product() {
        factor();
        while (see("*") || see("/")) {
            int word = take(true).text.equals("*") ? 8 : 9;
            factor();
            words.add(word);
        }
    }

    private void factor() {
        boolean minus = see("-");
        if (minus) {
            take(true);
        }
        if (seeName()) {
            for (int w : name(2)) {
                words.add(w);
            }
        } else if (see("(")) {
            take(brackets < 3);
            brackets++;
            sum();
            brackets--;
            take(see(")"));
        } else {
            String number = take(tokens.get(at).text.matches("[0-9].*")).text;
            int point = number.indexOf('.');
            words.add(1);
            words.add(Integer.parseInt(number.replace(".", "")));
            words.add(point < 0 ? 0 : number.length() - 1 - point);
        }
        if (minus) {
            words.add(10);
        }
    }

    /** A name's two words, the first one being this for a variable and one more for a parameter. */
    private int[] name(int word) {
        take(seeName());
        String name = tokens.get(at - 1).text;
        if (parameterNames.contains(name)) {
            return new int[] {word + 1, parameterNames.indexOf(name)};
        }
        if (!variableNames.contains(name)) {
            if (variableNames.size() == 8) {
                throw new Wrong(tokens.get(at - 1).place);
            }
            variableNames.add(name);
        }
        return new int[] {word, variableNames.indexOf(name)};
    }

    int run(int fuel) {
        int left = fuel;
        while (ended == 0 && left > 0) {
            word();
            left--;
        }
        return ended == 0 ? 2 : ended;
    }

    /** Only for a machine at its beginning. */
    int interpret(int fuel) {
        int left = fuel;
        while (ended == 0) {
            int w = words.get(place);
            boolean takesFuel = w == 0 || w == 28 && top() >= 1f || w == 29 && top() != 0f;
            if (takesFuel && left == 0) {
                ended = 2;
            } else {
                left -= takesFuel ? 1 : 0;
                word();
            }
        }
        return ended;
    }

    private float top() {
        return stack.get(stack.size() - 1);
    }

    private float pop() {
        return stack.remove(stack.size() - 1);
    }

    private void push(float f) {
        if (stack.size() == 24) {
            ended = 15;
        } else {
            stack.add(f);
        }
    }

    private int next() {
        return words.get(place++);
    }

    private void word() {
        int w = next();
        if (w == 1) {
            float digits = next();
            int behind = next();
            push(digits / (behind == 0 ? 1f : behind == 1 ? 10f : 100f));
        } else if (w == 2) {
            push(values[next()]);
        } else if (w == 3) {
            push(frames.peek().parameters[next()]);
        } else if (w == 4) {
            values[next()] = pop();
        } else if (w == 5) {
            frames.peek().parameters[next()] = pop();
        } else if (w == 10) {
            push(-pop());
        } else if (w >= 6 && w <= 13) {
            operation(w);
        } else if (w >= 14 && w <= 17 || w >= 28) {
            way(w);
        } else if (w >= 18 && w <= 26) {
            turtle(w);
        } else if (w == 27) {
            ended = 1;
        }
    }

    private void operation(int w) {
        float b = pop();
        float a = pop();
        if (w == 9 && b == 0f) {
            ended = 11;
        } else if (w <= 9) {
            float result = w == 6 ? a + b : w == 7 ? a - b : w == 8 ? a * b : a / b;
            if (Math.abs(result) > 100000f) {
                ended = 12;
            } else {
                push(result);
            }
        } else {
            push((w == 11 ? a < b : w == 12 ? a > b : a == b) ? 1f : 0f);
        }
    }

    private void way(int w) {
        if (w == 17) {
            if (frames.isEmpty()) {
                ended = 1;
                return;
            }
            Frame frame = frames.pop();
            place = frame.behind;
            while (stack.size() > frame.height) {
                pop();
            }
            return;
        }
        int to = next();
        if (w == 16) {
            call(to, next());
        } else if (w == 28 && top() >= 1f) {
            push(pop() - 1f);
        } else if (w == 14 || w == 28 && pop() < 1f || (w == 15 || w == 29) && pop() == 0f) {
            place = to;
        }
    }

    private void call(int to, int count) {
        if (frames.size() == 3) {
            ended = 14;
            return;
        }
        float[] parameters = new float[count];
        for (int p = count - 1; p >= 0; p--) {
            parameters[p] = pop();
        }
        frames.push(new Frame(place, stack.size(), parameters));
        place = to;
    }

    private void turtle(int w) {
        if (w <= 19) {
            forward(w == 18 ? pop() : -pop());
        } else if (w <= 22) {
            float f = pop();
            if (f != Math.rint(f) || w == 22 && (f < 0f || f > 9f)) {
                ended = 13;
            } else if (w == 22) {
                colour = Math.round(f);
            } else {
                heading = Math.floorMod(heading + Math.round(w == 20 ? f : -f), 24);
            }
        } else if (w <= 24) {
            down = w == 24;
        } else if (w == 25) {
            fill(pixel(x), pixel(y));
        } else {
            x = 16f;
            y = 12f;
            heading = 0;
        }
    }

    private static float sine(int h) {
        if (h >= 12) {
            return -sine(h - 12);
        }
        return h <= 6 ? S[h] : S[12 - h];
    }

    private static int pixel(float f) {
        return (int) Math.floor(f + 0.5f);
    }

    private void forward(float d) {
        float toX = x + d * sine((heading + 6) % 24);
        float toY = y + d * sine(heading);
        if (Math.abs(toX) > 1000f || Math.abs(toY) > 1000f) {
            ended = 12;
            return;
        }
        if (down) {
            line(pixel(x), pixel(y), pixel(toX), pixel(toY));
        }
        x = toX;
        y = toY;
    }

    private static boolean isInside(int a, int b) {
        return a >= 0 && a < 32 && b >= 0 && b < 24;
    }

    private void dot(int a, int b) {
        if (isInside(a, b)) {
            picture[b][a] = colour;
        }
    }

    private void line(int fromA, int fromB, int c, int d) {
        int a = fromA;
        int b = fromB;
        int u = Math.abs(c - a);
        int v = Math.abs(d - b);
        int e = u - v;
        dot(a, b);
        while (a != c || b != d) {
            int f = 2 * e;
            if (f > -v) {
                e = e - v;
                a += Integer.signum(c - a);
            }
            if (f < u) {
                e = e + u;
                b += Integer.signum(d - b);
            }
            dot(a, b);
        }
    }

    private void fill(int a, int b) {
        if (!isInside(a, b)) {
            return;
        }
        boolean[][] reached = new boolean[24][32];
        reach(reached, a, b, picture[b][a]);
        for (int n = 0; n < 24; n++) {
            for (int m = 0; m < 32; m++) {
                picture[n][m] = reached[n][m] ? colour : picture[n][m];
            }
        }
    }

    private void reach(boolean[][] reached, int a, int b, int old) {
        if (isInside(a, b) && !reached[b][a] && picture[b][a] == old) {
            reached[b][a] = true;
            reach(reached, a + 1, b, old);
            reach(reached, a - 1, b, old);
            reach(reached, a, b + 1, old);
            reach(reached, a, b - 1, old);
        }
    }

    /** What Check.scene tells of a desk. */
    String scene() {
        StringBuilder all = new StringBuilder();
        for (int[] row : picture) {
            Arrays.stream(row).forEach(all::append);
            all.append('\n');
        }
        all.append(x).append(' ').append(y).append(' ').append(heading);
        for (float value : values) {
            all.append(' ').append(value);
        }
        return all.toString();
    }
}
