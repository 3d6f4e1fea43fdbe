import java.util.Arrays;

/**
 * A desk for drawing by a turtle: a text in a small language is read and compiled to words of a
 * stack machine that runs it step by step, or it is done directly from what was read.
 *
 * <p>All rows are made once, in constructors; of what a call makes only the statements of a text
 * that is compiled (at most one for two characters) and exceptions are new.
 */
public final class TurtleDesk {
    public static final int NONE = -1;

    private static final int TEXT_LIMIT = 160;
    private static final int CODE_LIMIT = 240;
    private static final int FUEL_LIMIT = 2000;
    private static final int STACK_LIMIT = 24;
    private static final int CALL_LIMIT = 3;
    private static final int PARAMETER_LIMIT = 3;
    private static final int VARIABLE_LIMIT = 8;
    private static final int BLOCK_LIMIT = 3;
    private static final int BRACKET_LIMIT = 3;
    private static final int WIDTH = 32;
    private static final int HEIGHT = 24;
    private static final int HEADINGS = 24;
    private static final int COLOURS = 10;
    private static final int FIRST_COLOUR = 1;
    private static final int HOME_X = 16;
    private static final int HOME_Y = 12;

    // The machine's words. A statement that was read has the number of its word as its kind.
    private static final int STATEMENT = 0;
    private static final int NUMBER = 1;
    private static final int VARIABLE = 2;
    private static final int PARAMETER = 3;
    private static final int LET_VARIABLE = 4;
    private static final int LET_PARAMETER = 5;
    private static final int PLUS = 6;
    private static final int MINUS = 7;
    private static final int TIMES = 8;
    private static final int DIVIDE = 9;
    private static final int NEGATE = 10;
    private static final int BELOW = 11;
    private static final int ABOVE = 12;
    private static final int EQUAL = 13;
    private static final int JUMP = 14;
    private static final int IF = 15;
    private static final int CALL = 16;
    private static final int STOP = 17;
    private static final int FORWARD = 18;
    private static final int BACK = 19;
    private static final int RIGHT = 20;
    private static final int LEFT = 21;
    private static final int PEN = 22;
    private static final int UP = 23;
    private static final int DOWN = 24;
    private static final int FILL = 25;
    private static final int HOME = 26;
    private static final int HALT = 27;
    private static final int REPEAT = 28;
    private static final int WHILE = 29;

    // What else a token can be; a sign is its own kind, and the least of the signs is 40.
    private static final int NAME = 30;
    private static final int TO = 31;
    private static final int LET = 32;
    private static final int ELSE = 33;
    private static final int END = 34;

    private static final String SIGNS = "{}()+-*/<>=,";
    private static final String RESERVED =
            "to fd bk rt lt pen up down fill home stop let repeat while if else ";
    private static final int[] RESERVED_KINDS = {
        TO, FORWARD, BACK, RIGHT, LEFT, PEN, UP, DOWN, FILL, HOME, STOP, LET, REPEAT, WHILE,
        IF, ELSE
    };

    // The answers of run and interpret.
    private static final int GOING_ON = 0;
    private static final int HALTED = 1;
    private static final int FUEL_USED_UP = 2;
    private static final int TRAP_DIVISION = 11;
    private static final int TRAP_RANGE = 12;
    private static final int TRAP_WHOLE = 13;
    private static final int TRAP_CALLS = 14;
    private static final int TRAP_STACK = 15;

    private final char[] text = new char[TEXT_LIMIT];
    private int textLength = 0;
    private final Reader reader = new Reader();
    private final Coder coder = new Coder();
    private final Machine machine = new Machine();
    private final Walker walker = new Walker();
    // Two programs take turns, so that the one before stays when a text is refused.
    private Program program = new Program();
    private Program spare = new Program();

    public TurtleDesk() {
    }

    public boolean put(int word, int n) {
        if (n < 1 || n > 4 || textLength + n > TEXT_LIMIT) {
            return false;
        }
        for (int k = 0; k < n; k++) {
            if (!isCharacter(byteOf(word, k))) {
                return false;
            }
        }
        for (int k = n - 1; k >= 0; k--) {
            text[textLength] = (char) byteOf(word, k);
            textLength++;
        }
        return true;
    }

    public void clear() {
        textLength = 0;
    }

    public int compile() throws IllegalArgumentException, IllegalStateException {
        reader.read(text, textLength, spare);
        coder.write(spare);
        if (spare.wordCount > CODE_LIMIT) {
            throw new IllegalStateException("the code has too many words");
        }
        Program before = program;
        program = spare;
        spare = before;
        machine.begin();
        return program.wordCount;
    }

    public int error() {
        return reader.errorPlace;
    }

    public int size() {
        return program.wordCount;
    }

    public int word(int k) throws IndexOutOfBoundsException {
        if (k < 0 || k >= program.wordCount) {
            throw new IndexOutOfBoundsException("no such word");
        }
        return program.wordAt(k);
    }

    public void restart() throws IllegalStateException {
        needProgram();
        machine.begin();
    }

    public int run(int fuel) throws IllegalArgumentException, IllegalStateException {
        needFuel(fuel);
        needProgram();
        return machine.goOn(program, fuel);
    }

    public int interpret(int fuel) throws IllegalArgumentException, IllegalStateException {
        needFuel(fuel);
        needProgram();
        return walker.walk(program, machine, fuel);
    }

    public int pixel(int x, int y) {
        return machine.turtle.picture.colourAt(x, y);
    }

    public float x() {
        return machine.turtle.x;
    }

    public float y() {
        return machine.turtle.y;
    }

    public int heading() {
        return machine.turtle.heading;
    }

    public float value(int v) throws IndexOutOfBoundsException {
        if (v < 0 || v >= VARIABLE_LIMIT) {
            throw new IndexOutOfBoundsException("no such variable");
        }
        return machine.variables[v];
    }

    /** Byte k of a word, the lowest being byte 0. */
    private static int byteOf(int word, int k) {
        return (word >> (8 * k)) & 255;
    }

    private static boolean isCharacter(int c) {
        return c == 10 || c >= 32 && c <= 126;
    }

    private static void needFuel(int fuel) {
        if (fuel < 1 || fuel > FUEL_LIMIT) {
            throw new IllegalArgumentException("fuel is 1 .. 2000");
        }
    }

    private void needProgram() {
        if (program.wordCount == 0) {
            throw new IllegalStateException("there is no program");
        }
    }

    /** The tokens of a text, in rows. A word is kept as one number, five bits a letter. */
    private static final class Tokens {
        private static final int LETTER_LIMIT = 8;
        private static final int WHOLE_LIMIT = 4;
        private static final int BEHIND_LIMIT = 2;

        private final int[] kinds = new int[TEXT_LIMIT];
        private final int[] places = new int[TEXT_LIMIT];
        private final long[] names = new long[TEXT_LIMIT];
        private final int[] digits = new int[TEXT_LIMIT];
        private final int[] behinds = new int[TEXT_LIMIT];
        private final long[] reserved = new long[RESERVED_KINDS.length];
        private int count = 0;
        private int textEnd = 0;

        Tokens() {
            int r = 0;
            long packed = 0;
            for (int k = 0; k < RESERVED.length() && r < reserved.length; k++) {
                if (RESERVED.charAt(k) == ' ') {
                    reserved[r] = packed;
                    r++;
                    packed = 0;
                } else {
                    packed = withLetter(packed, RESERVED.charAt(k));
                }
            }
        }

        /** Answers where the first character stands that belongs to no token, or NONE. */
        int split(char[] text, int length) {
            count = 0;
            textEnd = length;
            int at = 0;
            for (int turn = 0; turn < length && at < length; turn++) {
                char c = text[at];
                int next = at + 1;
                if (isLetter(c)) {
                    next = takeWord(text, at, length);
                } else if (isDigit(c)) {
                    next = takeNumber(text, at, length);
                } else if (SIGNS.indexOf(c) >= 0) {
                    add(c, at);
                } else if (c != ' ' && c != '\n') {
                    return at;
                }
                if (goesTooFar(c, text, next, length)) {
                    return next;
                }
                at = next;
            }
            return NONE;
        }

        int kindAt(int k) {
            return k >= 0 && k < count ? kinds[k] : END;
        }

        int placeAt(int k) {
            return k >= 0 && k < count ? places[k] : textEnd;
        }

        long nameAt(int k) {
            return k >= 0 && k < count ? names[k] : 0;
        }

        int digitsAt(int k) {
            return k >= 0 && k < count ? digits[k] : 0;
        }

        int behindAt(int k) {
            return k >= 0 && k < count ? behinds[k] : 0;
        }

        /** Whether the token that began with c is as long as it may be, and yet does not end. */
        private static boolean goesTooFar(char c, char[] text, int next, int length) {
            if (next >= length) {
                return false;
            }
            return isLetter(c) && isLetter(text[next]) || isDigit(c) && isDigit(text[next]);
        }

        private int takeWord(char[] text, int from, int length) {
            long packed = 0;
            int at = from;
            int bound = Math.min(length, from + LETTER_LIMIT);
            while (at < bound && isLetter(text[at])) {
                packed = withLetter(packed, text[at]);
                at++;
            }
            if (count < TEXT_LIMIT) {
                names[count] = packed;
            }
            add(kindOfWord(packed), from);
            return at;
        }

        private int takeNumber(char[] text, int from, int length) {
            int at = digitsEnd(text, from, Math.min(length, from + WHOLE_LIMIT));
            int all = digitsFrom(0, text, from, at);
            int behind = 0;
            // A point without a digit behind it is no number's.
            if (at + 1 < length && text[at] == '.' && isDigit(text[at + 1])) {
                int first = at + 1;
                at = digitsEnd(text, first, Math.min(length, first + BEHIND_LIMIT));
                all = digitsFrom(all, text, first, at);
                behind = at - first;
            }
            if (count < TEXT_LIMIT) {
                digits[count] = all;
                behinds[count] = behind;
            }
            add(NUMBER, from);
            return at;
        }

        private static int digitsEnd(char[] text, int from, int bound) {
            int at = from;
            while (at < bound && isDigit(text[at])) {
                at++;
            }
            return at;
        }

        private static int digitsFrom(int before, char[] text, int from, int to) {
            int all = before;
            for (int k = from; k < to; k++) {
                all = 10 * all + (text[k] - '0');
            }
            return all;
        }

        private void add(int kind, int place) {
            if (count < TEXT_LIMIT) {
                kinds[count] = kind;
                places[count] = place;
                count++;
            }
        }

        private int kindOfWord(long packed) {
            for (int r = 0; r < reserved.length; r++) {
                if (reserved[r] == packed) {
                    return RESERVED_KINDS[r];
                }
            }
            return NAME;
        }

        private static long withLetter(long packed, char letter) {
            return 32 * packed + (letter - 'a' + 1);
        }

        private static boolean isLetter(char c) {
            return c >= 'a' && c <= 'z';
        }

        private static boolean isDigit(char c) {
            return c >= '0' && c <= '9';
        }
    }

    /** Names in the order in which they were told, at most so many as the row has places. */
    private static final class Names {
        private final long[] row;
        private int count = 0;

        Names(int limit) {
            row = new long[limit];
        }

        void forget() {
            count = 0;
        }

        /** Answers the name's number, or NONE. */
        int find(long name) {
            for (int k = 0; k < count; k++) {
                if (row[k] == name) {
                    return k;
                }
            }
            return NONE;
        }

        /** Answers the number that the new name gets, or NONE when the row is full. */
        int add(long name) {
            if (count >= row.length) {
                return NONE;
            }
            row[count] = name;
            count++;
            return count - 1;
        }
    }

    /** A statement or a definition that was read. */
    private static final class Statement {
        private int kind;
        /** Which variable or parameter a let sets, or how many parameters there are. */
        private int number = 0;
        /** Its expressions are the program's terms from here .. */
        private int from;
        /** .. to here, without this one. */
        private int to;
        private Statement body = null;
        private boolean hasElse = false;
        private Statement elseBody = null;
        private Statement next = null;
        /** Of a call or a definition: its name, and the next one of the same sort in the text. */
        private long name = 0;
        private Statement nextOfSort = null;
        /** Of a call: where its name stands in the text, and the definition that fits. */
        private int textPlace = 0;
        private Statement definition = null;
        /** Where the code has a definition's block, or a call's place to go to. */
        private int codePlace = 0;

        Statement(int kind) {
            this.kind = kind;
        }
    }

    /** What was read of a text, and the code that it was compiled to. */
    private static final class Program {
        private Statement first = null;
        private Statement firstCall = null;
        // The terms of all expressions, what an operation works on before the operation.
        private final int[] termKinds = new int[TEXT_LIMIT];
        private final int[] termNumbers = new int[TEXT_LIMIT];
        private final int[] termBehinds = new int[TEXT_LIMIT];
        private int termCount = 0;
        private final int[] words = new int[CODE_LIMIT];
        private int wordCount = 0;

        void begin() {
            first = null;
            firstCall = null;
            termCount = 0;
            wordCount = 0;
        }

        void addTerm(int kind, int number, int behind) {
            if (termCount < TEXT_LIMIT) {
                termKinds[termCount] = kind;
                termNumbers[termCount] = number;
                termBehinds[termCount] = behind;
                termCount++;
            }
        }

        /** Words beyond the limit are counted, not kept. */
        void addWord(int w) {
            setWord(wordCount, w);
            wordCount++;
        }

        void setWord(int k, int w) {
            if (k >= 0 && k < CODE_LIMIT) {
                words[k] = w;
            }
        }

        int wordAt(int k) {
            return k >= 0 && k < wordCount && k < CODE_LIMIT ? words[k] : HALT;
        }
    }

    /**
     * Reads a text into a program. Its recursion goes over blocks and brackets, and a block or
     * bracket that lies too deep is refused.
     */
    private static final class Reader {
        private final Tokens tokens = new Tokens();
        private final Names variables = new Names(VARIABLE_LIMIT);
        private final Names parameters = new Names(PARAMETER_LIMIT);
        private Program program = null;
        private Statement firstDefinition = null;
        private Statement lastDefinition = null;
        private Statement lastCall = null;
        private int at = 0;
        private int errorPlace = NONE;

        /** Throws IllegalArgumentException at the first error, whose place is then kept. */
        void read(char[] text, int length, Program into) {
            begin(into);
            int wrong = tokens.split(text, length);
            if (wrong != NONE) {
                refuse(wrong);
            }
            into.first = readAll(0, END);
            for (Statement call = into.firstCall; call != null; call = call.nextOfSort) {
                call.definition = definitionOf(call.name);
                if (call.definition == null || call.definition.number != call.number) {
                    refuse(call.textPlace);
                }
            }
        }

        private void begin(Program into) {
            errorPlace = NONE;
            at = 0;
            variables.forget();
            parameters.forget();
            firstDefinition = null;
            lastDefinition = null;
            lastCall = null;
            into.begin();
            program = into;
        }

        private void refuse(int place) {
            errorPlace = place;
            throw new IllegalArgumentException("the text is wrong there");
        }

        private void refuseHere() {
            errorPlace = tokens.placeAt(at);
            throw new IllegalArgumentException("a token may not stand here");
        }

        /** The kind of the token that comes next. */
        private int here() {
            return tokens.kindAt(at);
        }

        private void expect(int kind) {
            if (here() != kind) {
                refuseHere();
            }
            at++;
        }

        private Statement definitionOf(long name) {
            for (Statement d = firstDefinition; d != null; d = d.nextOfSort) {
                if (d.name == name) {
                    return d;
                }
            }
            return null;
        }

        /** Reads the statements that lie in so many blocks, up to a token of a kind. */
        private Statement readAll(int depth, int end) {
            Statement first = null;
            Statement last = null;
            for (int k = 0; k < TEXT_LIMIT && here() != end; k++) {
                Statement s = readStatement(depth);
                if (last == null) {
                    first = s;
                } else {
                    last.next = s;
                }
                last = s;
            }
            return first;
        }

        /** Reads a block that is the so manieth of those that lie in one another. */
        private Statement readBlock(int depth) {
            if (depth > BLOCK_LIMIT) {
                refuseHere();
            }
            expect('{');
            Statement first = readAll(depth, '}');
            expect('}');
            return first;
        }

        private void readDefinition(Statement s) {
            at++;
            s.name = tokens.nameAt(at);
            if (here() == NAME && definitionOf(s.name) != null) {
                refuseHere();
            }
            expect(NAME);
            if (lastDefinition == null) {
                firstDefinition = s;
            } else {
                lastDefinition.nextOfSort = s;
            }
            lastDefinition = s;
            for (int k = 0; k < PARAMETER_LIMIT && here() == NAME; k++) {
                if (parameters.find(tokens.nameAt(at)) != NONE) {
                    refuseHere();
                }
                parameters.add(tokens.nameAt(at));
                at++;
            }
            s.number = parameters.count;
            s.body = readBlock(1);
            parameters.forget();
        }

        /** Reads a statement that lies in so many blocks, or in none a definition. */
        private Statement readStatement(int depth) {
            Statement s = new Statement(here());
            s.from = program.termCount;
            switch (s.kind) {
                case FORWARD: case BACK: case RIGHT: case LEFT: case PEN: case REPEAT:
                    at++;
                    readSum(0);
                    break;
                case UP: case DOWN: case FILL: case HOME: case STOP:
                    at++;
                    break;
                case LET:
                    readLet(s);
                    break;
                case WHILE: case IF:
                    at++;
                    readCondition();
                    break;
                case NAME:
                    readCall(s);
                    break;
                case TO:
                    if (depth > 0) {
                        refuseHere();
                    }
                    readDefinition(s);
                    break;
                default:
                    refuseHere();
            }
            s.to = program.termCount;
            if (s.kind == REPEAT || s.kind == WHILE || s.kind == IF) {
                s.body = readBlock(depth + 1);
            }
            if (s.kind == IF && here() == ELSE) {
                at++;
                s.hasElse = true;
                s.elseBody = readBlock(depth + 1);
            }
            return s;
        }

        private void readLet(Statement s) {
            at++;
            if (here() != NAME) {
                refuseHere();
            }
            s.kind = isParameterHere() ? LET_PARAMETER : LET_VARIABLE;
            s.number = numberHere();
            at++;
            expect('=');
            readSum(0);
        }

        private void readCall(Statement s) {
            s.kind = CALL;
            s.name = tokens.nameAt(at);
            s.textPlace = tokens.placeAt(at);
            at++;
            expect('(');
            if (here() != ')') {
                readSum(0);
                s.number = 1;
            }
            // Without a first E no comma may stand, nor after the last one that is allowed.
            while (s.number > 0 && s.number < PARAMETER_LIMIT && here() == ',') {
                at++;
                readSum(0);
                s.number++;
            }
            expect(')');
            if (lastCall == null) {
                program.firstCall = s;
            } else {
                lastCall.nextOfSort = s;
            }
            lastCall = s;
        }

        private void readCondition() {
            readSum(0);
            int kind = relationOf(here());
            if (kind == NONE) {
                refuseHere();
            }
            at++;
            readSum(0);
            program.addTerm(kind, 0, 0);
        }

        /** Reads an E that lies in so many brackets. */
        private void readSum(int depth) {
            readProduct(depth);
            for (int k = 0; k < TEXT_LIMIT && (here() == '+' || here() == '-'); k++) {
                int kind = here() == '+' ? PLUS : MINUS;
                at++;
                readProduct(depth);
                program.addTerm(kind, 0, 0);
            }
        }

        private void readProduct(int depth) {
            readFactor(depth);
            for (int k = 0; k < TEXT_LIMIT && (here() == '*' || here() == '/'); k++) {
                int kind = here() == '*' ? TIMES : DIVIDE;
                at++;
                readFactor(depth);
                program.addTerm(kind, 0, 0);
            }
        }

        private void readFactor(int depth) {
            boolean negated = here() == '-';
            if (negated) {
                at++;
            }
            switch (here()) {
                case NUMBER:
                    program.addTerm(NUMBER, tokens.digitsAt(at), tokens.behindAt(at));
                    at++;
                    break;
                case NAME:
                    program.addTerm(isParameterHere() ? PARAMETER : VARIABLE, numberHere(), 0);
                    at++;
                    break;
                case '(':
                    if (depth >= BRACKET_LIMIT) {
                        refuseHere();
                    }
                    at++;
                    readSum(depth + 1);
                    expect(')');
                    break;
                default:
                    refuseHere();
            }
            if (negated) {
                program.addTerm(NEGATE, 0, 0);
            }
        }

        private boolean isParameterHere() {
            return parameters.find(tokens.nameAt(at)) != NONE;
        }

        /** The number of the parameter or variable whose name comes next, perhaps a new one. */
        private int numberHere() {
            long name = tokens.nameAt(at);
            int number = parameters.find(name);
            if (number == NONE) {
                number = variables.find(name);
            }
            if (number == NONE) {
                number = variables.add(name);
            }
            if (number == NONE) {
                refuseHere();
            }
            return number;
        }

        private static int relationOf(int sign) {
            switch (sign) {
                case '<':
                    return BELOW;
                case '>':
                    return ABOVE;
                case '=':
                    return EQUAL;
                default:
                    return NONE;
            }
        }
    }

    /**
     * Writes the code of a program that was read. Its recursion goes over blocks, which the reader
     * lets lie only three deep in one another.
     */
    private static final class Coder {
        private Program program = null;

        void write(Program read) {
            program = read;
            writeAll(read.first);
            read.addWord(HALT);
            // A call may stand before its definition, so the places are known only now.
            for (Statement call = read.firstCall; call != null; call = call.nextOfSort) {
                if (call.definition != null) {
                    read.setWord(call.codePlace, call.definition.codePlace);
                }
            }
        }

        private void writeAll(Statement first) {
            for (Statement s = first; s != null; s = s.next) {
                if (s.kind == TO) {
                    writeDefinition(s);
                } else {
                    writeStatement(s);
                }
            }
        }

        private void writeDefinition(Statement s) {
            int over = writeOpen(JUMP);
            s.codePlace = program.wordCount;
            writeAll(s.body);
            program.addWord(STOP);
            program.setWord(over, program.wordCount);
        }

        private void writeStatement(Statement s) {
            program.addWord(STATEMENT);
            int begin = program.wordCount;
            writeTerms(s.from, s.to);
            switch (s.kind) {
                case REPEAT:
                    writeLoop(s, program.wordCount);
                    break;
                case WHILE:
                    writeLoop(s, begin);
                    break;
                case IF:
                    writeIf(s);
                    break;
                case CALL:
                    s.codePlace = writeOpen(CALL);
                    program.addWord(s.number);
                    break;
                case LET_VARIABLE: case LET_PARAMETER:
                    program.addWord(s.kind);
                    program.addWord(s.number);
                    break;
                default:
                    program.addWord(s.kind);
            }
        }

        private void writeTerms(int from, int to) {
            for (int k = from; k < to && k < program.termCount; k++) {
                int kind = program.termKinds[k];
                program.addWord(kind);
                if (kind == NUMBER || kind == VARIABLE || kind == PARAMETER) {
                    program.addWord(program.termNumbers[k]);
                }
                if (kind == NUMBER) {
                    program.addWord(program.termBehinds[k]);
                }
            }
        }

        private void writeLoop(Statement s, int back) {
            int behind = writeOpen(s.kind);
            writeAll(s.body);
            program.addWord(JUMP);
            program.addWord(back);
            program.setWord(behind, program.wordCount);
        }

        private void writeIf(Statement s) {
            int otherwise = writeOpen(IF);
            writeAll(s.body);
            if (s.hasElse) {
                int behind = writeOpen(JUMP);
                program.setWord(otherwise, program.wordCount);
                writeAll(s.elseBody);
                program.setWord(behind, program.wordCount);
            } else {
                program.setWord(otherwise, program.wordCount);
            }
        }

        /** Writes a word and, for a place not yet known, another; answers where that one stands. */
        private int writeOpen(int w) {
            program.addWord(w);
            program.addWord(0);
            return program.wordCount - 1;
        }
    }

    /** The picture's pixels, row by row. */
    private static final class Picture {
        private final int[] pixels = new int[WIDTH * HEIGHT];
        private final int[] reached = new int[WIDTH * HEIGHT];
        private int reachedCount = 0;

        void wipe() {
            Arrays.fill(pixels, 0);
        }

        int colourAt(int a, int b) {
            return holds(a, b) ? pixels[b * WIDTH + a] : NONE;
        }

        void drawLine(int fromA, int fromB, int toA, int toB, int colour) {
            int u = Math.abs(toA - fromA);
            int v = Math.abs(toB - fromB);
            int e = u - v;
            int a = fromA;
            int b = fromB;
            dot(a, b, colour);
            for (int k = 0; k < u + v && (a != toA || b != toB); k++) {
                int f = 2 * e;
                if (f > -v) {
                    e -= v;
                    a += a < toA ? 1 : -1;
                }
                if (f < u) {
                    e += u;
                    b += b < toB ? 1 : -1;
                }
                dot(a, b, colour);
            }
        }

        void fillFrom(int a, int b, int colour) {
            int old = colourAt(a, b);
            if (old == NONE || old == colour) {
                return;
            }
            reachedCount = 0;
            reach(a, b, old, colour);
            // A pixel is reached once at most, for it then has another colour than the old one.
            for (int k = 0; k < reachedCount && k < reached.length; k++) {
                int c = reached[k] % WIDTH;
                int d = reached[k] / WIDTH;
                reach(c + 1, d, old, colour);
                reach(c - 1, d, old, colour);
                reach(c, d + 1, old, colour);
                reach(c, d - 1, old, colour);
            }
        }

        private void reach(int a, int b, int old, int colour) {
            if (holds(a, b) && pixels[b * WIDTH + a] == old && reachedCount < reached.length) {
                pixels[b * WIDTH + a] = colour;
                reached[reachedCount] = b * WIDTH + a;
                reachedCount++;
            }
        }

        private void dot(int a, int b, int colour) {
            if (holds(a, b)) {
                pixels[b * WIDTH + a] = colour;
            }
        }

        private static boolean holds(int a, int b) {
            return a >= 0 && a < WIDTH && b >= 0 && b < HEIGHT;
        }
    }

    /** The turtle, and the picture that it draws on. */
    private static final class Turtle {
        private final Picture picture = new Picture();
        private float x = (float) HOME_X;
        private float y = (float) HOME_Y;
        private int heading = 0;
        private int colour = FIRST_COLOUR;
        private boolean down = true;

        void begin() {
            picture.wipe();
            goHome();
            colour = FIRST_COLOUR;
            down = true;
        }

        void goHome() {
            x = (float) HOME_X;
            y = (float) HOME_Y;
            heading = 0;
        }

        /** Answers false, and stays, when the new place would lie too far out. */
        boolean advance(float d) {
            float newX = x + d * sine((heading + 6) % HEADINGS);
            float newY = y + d * sine(heading);
            if (isFar(newX) || isFar(newY)) {
                return false;
            }
            if (down) {
                picture.drawLine(pixelOf(x), pixelOf(y), pixelOf(newX), pixelOf(newY), colour);
            }
            x = newX;
            y = newY;
            return true;
        }

        void turn(int headings) {
            heading = Math.floorMod(heading + headings, HEADINGS);
        }

        void paint() {
            picture.fillFrom(pixelOf(x), pixelOf(y), colour);
        }

        private static boolean isFar(float f) {
            return f > 1000f || f < -1000f;
        }

        /** The floor of f + 0.5. */
        private static int pixelOf(float f) {
            float moved = f + 0.5f;
            int whole = (int) moved;
            return (float) whole > moved ? whole - 1 : whole;
        }

        private static float sine(int h) {
            return h < 12 ? sineOfUpperHalf(h) : -sineOfUpperHalf(h - 12);
        }

        private static float sineOfUpperHalf(int h) {
            switch (h <= 6 ? h : 12 - h) {
                case 0:
                    return 0f;
                case 1:
                    return 0.25881904f;
                case 2:
                    return 0.5f;
                case 3:
                    return 0.70710677f;
                case 4:
                    return 0.8660254f;
                case 5:
                    return 0.9659258f;
                default:
                    return 1f;
            }
        }
    }

    /** The machine. What it does for one word is also what the walker does for one term. */
    private static final class Machine {
        private final float[] stack = new float[STACK_LIMIT];
        private int height = 0;
        private final float[] variables = new float[VARIABLE_LIMIT];
        private int calls = 0;
        private final float[] parameters = new float[CALL_LIMIT * PARAMETER_LIMIT];
        private final int[] placesBehind = new int[CALL_LIMIT];
        private final int[] heightsBefore = new int[CALL_LIMIT];
        private final Turtle turtle = new Turtle();
        private int place = 0;
        private int answer = GOING_ON;

        void begin() {
            height = 0;
            Arrays.fill(variables, 0f);
            calls = 0;
            turtle.begin();
            place = 0;
            answer = GOING_ON;
        }

        int goOn(Program program, int fuel) {
            for (int left = fuel; left > 0 && isGoing(); left--) {
                step(program);
            }
            return isGoing() ? FUEL_USED_UP : answer;
        }

        boolean isGoing() {
            return answer == GOING_ON;
        }

        private void step(Program program) {
            int what = program.wordAt(place);
            int first = program.wordAt(place + 1);
            int second = program.wordAt(place + 2);
            int next = place + wordsOf(what);
            switch (what) {
                case STATEMENT:
                    break;
                case JUMP:
                    next = first;
                    break;
                case IF: case WHILE:
                    next = takeIsZero() ? first : next;
                    break;
                case REPEAT:
                    next = takeTurn() ? next : first;
                    break;
                case CALL:
                    enter(second, next);
                    next = first;
                    break;
                case STOP:
                    next = leave();
                    break;
                case HALT:
                    answer = HALTED;
                    break;
                case FORWARD: case BACK: case RIGHT: case LEFT: case PEN:
                case UP: case DOWN: case FILL: case HOME:
                    move(what);
                    break;
                default:
                    operate(what, first, second);
            }
            place = next;
        }

        private static int wordsOf(int what) {
            switch (what) {
                case NUMBER: case CALL:
                    return 3;
                case VARIABLE: case PARAMETER: case LET_VARIABLE: case LET_PARAMETER:
                case JUMP: case IF: case REPEAT: case WHILE:
                    return 2;
                default:
                    return 1;
            }
        }

        /**
         * Does a word that reckons; number and behind are the words that belong to it. The reader
         * gives no number beyond its row: the modulo only shows that every index lies inside.
         */
        void operate(int what, int number, int behind) {
            switch (what) {
                case NUMBER:
                    push(numberOf(number, behind));
                    break;
                case VARIABLE:
                    push(variables[Math.floorMod(number, VARIABLE_LIMIT)]);
                    break;
                case PARAMETER:
                    push(parameters[parameterPlace(number)]);
                    break;
                case LET_VARIABLE:
                    variables[Math.floorMod(number, VARIABLE_LIMIT)] = take();
                    break;
                case LET_PARAMETER:
                    parameters[parameterPlace(number)] = take();
                    break;
                case PLUS: case MINUS: case TIMES: case DIVIDE:
                    calculate(what);
                    break;
                case NEGATE:
                    push(-take());
                    break;
                case BELOW: case ABOVE: case EQUAL:
                    compare(what);
                    break;
                default:
                    break;
            }
        }

        private static float numberOf(int digits, int behind) {
            switch (behind) {
                case 1:
                    return (float) digits / 10f;
                case 2:
                    return (float) digits / 100f;
                default:
                    return (float) digits;
            }
        }

        private int parameterPlace(int p) {
            return Math.max(0, calls - 1) * PARAMETER_LIMIT + Math.floorMod(p, PARAMETER_LIMIT);
        }

        private void calculate(int what) {
            float b = take();
            float a = take();
            float result = 0f;
            switch (what) {
                case PLUS:
                    result = a + b;
                    break;
                case MINUS:
                    result = a - b;
                    break;
                case TIMES:
                    result = a * b;
                    break;
                default:
                    if (b == 0f) {
                        answer = TRAP_DIVISION;
                        return;
                    }
                    result = a / b;
            }
            if (result > 100000f || result < -100000f) {
                answer = TRAP_RANGE;
                return;
            }
            push(result);
        }

        private void compare(int what) {
            float b = take();
            float a = take();
            boolean so = what == BELOW ? a < b : what == ABOVE ? a > b : a == b;
            push(so ? 1f : 0f);
        }

        /** Does a word that the turtle does. */
        void move(int what) {
            switch (what) {
                case FORWARD: case BACK:
                    if (!turtle.advance(what == FORWARD ? take() : -take())) {
                        answer = TRAP_RANGE;
                    }
                    break;
                case RIGHT: case LEFT: case PEN:
                    steer(what, take());
                    break;
                case UP:
                    turtle.down = false;
                    break;
                case DOWN:
                    turtle.down = true;
                    break;
                case FILL:
                    turtle.paint();
                    break;
                case HOME:
                    turtle.goHome();
                    break;
                default:
                    break;
            }
        }

        private void steer(int what, float f) {
            int whole = (int) f;
            if ((float) whole != f || what == PEN && (whole < 0 || whole >= COLOURS)) {
                answer = TRAP_WHOLE;
            } else if (what == PEN) {
                turtle.colour = whole;
            } else {
                turtle.turn(what == RIGHT ? whole : -whole);
            }
        }

        boolean takeIsZero() {
            return take() == 0f;
        }

        /** Whether the loop whose count is on top has a turn left; takes it, or the count. */
        boolean takeTurn() {
            float left = take();
            if (left < 1f) {
                return false;
            }
            push(left - 1f);
            return true;
        }

        /** Begins a call with so many parameters; answers false when too many are under way. */
        boolean enter(int count, int placeBehind) {
            if (calls >= CALL_LIMIT) {
                answer = TRAP_CALLS;
                return false;
            }
            for (int p = Math.min(count, PARAMETER_LIMIT) - 1; p >= 0; p--) {
                parameters[calls * PARAMETER_LIMIT + p] = take();
            }
            placesBehind[calls] = placeBehind;
            heightsBefore[calls] = height;
            calls++;
            return true;
        }

        /** Ends the call under way, or all when there is none; answers the place behind it. */
        int leave() {
            if (calls == 0) {
                answer = HALTED;
                return place;
            }
            calls--;
            height = heightsBefore[calls];
            return placesBehind[calls];
        }

        private void push(float f) {
            if (height >= STACK_LIMIT) {
                answer = TRAP_STACK;
                return;
            }
            stack[height] = f;
            height++;
        }

        private float take() {
            if (height == 0) {
                return 0f;
            }
            height--;
            return stack[height];
        }
    }

    /**
     * Does a program directly from what was read. Its recursion goes over blocks, which the reader
     * lets lie only three deep in one another, and over calls, of which the machine lets only
     * three be under way.
     */
    private static final class Walker {
        private Program program = null;
        private Machine machine = null;
        private int fuelLeft = 0;
        private boolean isStopping = false;

        int walk(Program read, Machine on, int fuel) {
            program = read;
            machine = on;
            fuelLeft = fuel;
            isStopping = false;
            machine.begin();
            walkAll(read.first);
            if (machine.isGoing()) {
                machine.answer = HALTED;
            }
            return machine.answer;
        }

        private boolean goesOn() {
            return machine.isGoing() && !isStopping;
        }

        private boolean takesFuel() {
            if (fuelLeft == 0) {
                machine.answer = FUEL_USED_UP;
                return false;
            }
            fuelLeft--;
            return true;
        }

        private void walkAll(Statement first) {
            for (Statement s = first; s != null && goesOn(); s = s.next) {
                if (s.kind != TO && takesFuel()) {
                    walkStatement(s);
                }
            }
        }

        private void walkStatement(Statement s) {
            switch (s.kind) {
                case REPEAT:
                    walkRepeat(s);
                    break;
                case WHILE:
                    walkWhile(s);
                    break;
                case IF:
                    if (workOut(s)) {
                        walkAll(machine.takeIsZero() ? s.elseBody : s.body);
                    }
                    break;
                case CALL:
                    walkCall(s);
                    break;
                case STOP:
                    isStopping = true;
                    break;
                case LET_VARIABLE: case LET_PARAMETER:
                    if (workOut(s)) {
                        machine.operate(s.kind, s.number, 0);
                    }
                    break;
                default:
                    if (workOut(s)) {
                        machine.move(s.kind);
                    }
            }
        }

        // Every turn takes fuel, so there are never more turns than there can be fuel.
        private void walkRepeat(Statement s) {
            if (!workOut(s)) {
                return;
            }
            for (int k = 0; k <= FUEL_LIMIT && goesOn() && machine.takeTurn(); k++) {
                if (takesFuel()) {
                    walkAll(s.body);
                }
            }
        }

        private void walkWhile(Statement s) {
            for (int k = 0; k <= FUEL_LIMIT && goesOn(); k++) {
                if (!workOut(s) || machine.takeIsZero()) {
                    return;
                }
                if (takesFuel()) {
                    walkAll(s.body);
                }
            }
        }

        private void walkCall(Statement s) {
            if (workOut(s) && s.definition != null && machine.enter(s.number, 0)) {
                walkAll(s.definition.body);
                isStopping = false;
                machine.leave();
            }
        }

        /** Puts what a statement's expressions come to on the stack; false when there is a trap. */
        private boolean workOut(Statement s) {
            for (int k = s.from; k < s.to && k < program.termCount && machine.isGoing(); k++) {
                machine.operate(
                        program.termKinds[k], program.termNumbers[k], program.termBehinds[k]);
            }
            return machine.isGoing();
        }
    }
}
