/** Makes texts by a fixed rule, the same ones each time; most of them have no error. */
final class Programs {
    private static final String[] SIMPLE = {
        "fd ", "fd ", "bk ", "rt ", "lt ", "pen ", "let a=", "let b=", "let x="
    };
    private static final String[] NAMES = {"a", "b", "x", "y", "x", "p"};
    private static final String[] MORE_NAMES = {"c", "d", "e", "f", "g", "h", "i", "abcdefgh"};
    private static final String[] BARE = {"up ", "down ", "fill ", "home ", "stop "};
    private static final String[] PARAMETERS = {"", " x", " x y", " y x a"};
    private static final int LIMIT = 160;

    private long seed;
    /** How many parameters p, q and r have; less than 0 when there is no such definition. */
    private final int[] counts = new int[3];

    Programs(long seed) {
        this.seed = seed;
    }

    /** A text of at most 160 characters. */
    String next() {
        if (below(40) == 0) {
            return dense();
        }
        for (int k = 0; k < 1000; k++) {
            for (int d = 0; d < counts.length; d++) {
                counts[d] = below(3) == 0 ? -1 : below(4);
            }
            StringBuilder text = new StringBuilder();
            for (int d = 0; d < counts.length; d++) {
                text.append(statements(below(3), 0));
                if (counts[d] >= 0) {
                    text.append("to ").append((char) ('p' + d)).append(PARAMETERS[counts[d]]);
                    text.append(block(1));
                }
            }
            text.append(statements(below(4), 0));
            if (text.length() <= LIMIT) {
                return text.toString();
            }
        }
        return "";
    }

    /** A text with as many words as a text can have, and more. */
    private String dense() {
        StringBuilder text = new StringBuilder();
        int length = LIMIT - 20 + below(18);
        while (text.length() < length) {
            text.append(below(16) == 0 ? "up " : below(3) == 0 ? "fd-1" : "fd" + below(10));
        }
        return text.toString();
    }

    private int below(int bound) {
        seed = seed * 6364136223846793005L + 1442695040888963407L;
        return (int) ((seed >>> 33) % bound);
    }

    private String block(int depth) {
        return "{" + statements(below(4), depth) + "}";
    }

    private String statements(int count, int depth) {
        StringBuilder text = new StringBuilder();
        for (int n = count; n > 0; n--) {
            text.append(statement(depth));
        }
        return text.toString();
    }

    private String statement(int depth) {
        int kind = below(20);
        if (kind < 3) {
            return BARE[below(BARE.length)];
        }
        if (kind < 5) {
            int d = below(counts.length);
            return counts[d] < 0 ? "" : (char) ('p' + d) + "(" + sums(counts[d]) + ")";
        }
        if (kind < 10 && depth < 3) {
            String condition = sum(0) + "<>=".charAt(below(3)) + sum(0);
            switch (below(4)) {
                case 0:
                    return "while " + condition + block(depth + 1);
                case 1:
                    return "if " + condition + block(depth + 1);
                case 2:
                    return "if " + condition + block(depth + 1) + "else" + block(depth + 1);
                default:
                    return "repeat " + sum(0) + block(depth + 1);
            }
        }
        return SIMPLE[below(SIMPLE.length)] + sum(0) + " ";
    }

    private String sums(int count) {
        StringBuilder text = new StringBuilder();
        for (int n = 0; n < count; n++) {
            text.append(n == 0 ? "" : ",").append(sum(0));
        }
        return text.toString();
    }

    private String sum(int depth) {
        String text = factor(depth);
        for (int n = below(3); n > 1; n--) {
            text += "+-*/".charAt(below(4)) + factor(depth);
        }
        return text;
    }

    private String factor(int depth) {
        String sign = below(8) == 0 ? "-" : "";
        int kind = below(40);
        if (kind < 20) {
            return sign + below(10);
        }
        if (kind < 24) {
            return sign + below(100) + "." + below(100);
        }
        if (kind < 25) {
            return sign + MORE_NAMES[below(MORE_NAMES.length)];
        }
        if (kind < 36 || depth == 3) {
            return sign + NAMES[below(NAMES.length)];
        }
        return sign + "(" + sum(depth + 1) + ")";
    }
}
