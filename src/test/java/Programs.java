/** Makes texts without errors by a fixed rule, the same ones each time. */
final class Programs {
    private static final String[] SIMPLE = {
        "fd ", "fd ", "bk ", "rt ", "lt ", "pen ", "let a=", "let b=", "let x="
    };
    private static final String[] NAMES = {"a", "b", "x", "y"};
    private static final String[] BARE = {"up ", "down ", "fill ", "home ", "stop "};

    private long seed = 20261119;

    /** A text of at most 160 characters. */
    String next() {
        for (int k = 0; k < 1000; k++) {
            StringBuilder text = new StringBuilder();
            text.append("to p x y").append(block(1));
            text.append("to q x").append(block(1));
            for (int n = 1 + below(4); n > 0; n--) {
                text.append(statement(0));
            }
            if (text.length() <= 160) {
                return text.toString();
            }
        }
        return "";
    }

    private int below(int bound) {
        seed = seed * 6364136223846793005L + 1442695040888963407L;
        return (int) ((seed >>> 33) % bound);
    }

    private String block(int depth) {
        StringBuilder text = new StringBuilder("{");
        for (int n = below(4); n > 0; n--) {
            text.append(statement(depth));
        }
        return text.append("}").toString();
    }

    private String statement(int depth) {
        int kind = below(20);
        if (kind < 3) {
            return BARE[below(BARE.length)];
        }
        if (kind < 5) {
            return below(2) == 0 ? "p(" + sum(0) + "," + sum(0) + ")" : "q(" + sum(0) + ")";
        }
        if (kind < 10 && depth < 3) {
            String condition = sum(0) + "<>=".charAt(below(3)) + sum(0);
            switch (below(4)) {
                case 0:
                    return "while " + condition + block(depth + 1);
                case 1:
                    return "if " + condition + block(depth + 1);
                case 2:
                    return "if " + condition + block(depth + 1) + "else" + block(depth + 1);
                default:
                    return "repeat " + sum(0) + block(depth + 1);
            }
        }
        String simple = SIMPLE[below(SIMPLE.length)];
        return simple + sum(0) + " ";
    }

    private String sum(int depth) {
        String text = factor(depth);
        for (int n = below(3); n > 1; n--) {
            text += "+-*/".charAt(below(4)) + factor(depth);
        }
        return text;
    }

    private String factor(int depth) {
        String sign = below(8) == 0 ? "-" : "";
        int kind = below(10);
        if (kind < 5) {
            return sign + below(10);
        }
        if (kind < 6) {
            return sign + below(100) + "." + below(100);
        }
        if (kind < 9 || depth == 3) {
            return sign + NAMES[below(NAMES.length)];
        }
        return sign + "(" + sum(depth + 1) + ")";
    }
}
