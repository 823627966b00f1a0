import java.util.Random;

/** Makes TEXTS at random: most can be read, some have a FAULT. */
final class TextMaker {
    private static final String[] LAW_WORDS =
            {"join", "left", "right", "worth", "heir", "times", "year", "mood"};
    private static final String[] ORDER_WORDS = {"year", "done", "latest", "readings", "living"};
    private static final String[] ODD = {";", "[", "]", "(", ")", "+", "-", "*", "/", "%", "<", ">",
        "=", "not", "and", "or", "if", "times", "as", "to", "mark", "kind", "1001", "1000", "0",
        "21", "x", "A", "\n", "shares", "bars", "pass", "0007", "99999999999999"};

    private final Random random;
    private final StringBuilder text = new StringBuilder();
    private boolean isLaw = true;
    private int budget = 0;

    TextMaker(Random random) {
        this.random = random;
    }

    String law() {
        return random.nextInt(12) == 0 ? heap("shares", LAW_WORDS) : make(true);
    }

    String orders() {
        return random.nextInt(12) == 0 ? heap("die", ORDER_WORDS) : make(false);
    }

    /** A head with a long row of parts and signs, near to the limits of parts and brackets. */
    private String heap(String head, String[] words) {
        text.setLength(0);
        word(head);
        int open = 0;
        int parts = 44 + random.nextInt(9);
        for (int i = 0; i < parts; i++) {
            if (i > 0) {
                word("" + "+++--*/%".charAt(random.nextInt(8)));
            }
            for (; random.nextInt(3) == 0 && open < 9; open++) {
                word("[");
            }
            word(random.nextInt(3) == 0 ? words[random.nextInt(words.length)] : "" + random.nextInt(9));
            for (; random.nextInt(3) == 0 && open > 0; open--) {
                word("]");
            }
        }
        for (; open > 0; open--) {
            word("]");
        }
        if (random.nextInt(4) == 0) {
            word(ODD[random.nextInt(ODD.length)]);
        }
        if (text.length() > 400) {
            text.setLength(400);
        }
        return text.toString();
    }

    private String make(boolean asLaw) {
        isLaw = asLaw;
        budget = random.nextInt(30);
        text.setLength(0);
        int clauses = random.nextInt(40) == 0 ? 11 + random.nextInt(3) : 1 + random.nextInt(4);
        for (int c = 0; c < clauses; c++) {
            if (c > 0) {
                word(";");
            }
            clause();
        }
        if (random.nextInt(6) == 0) {
            spoil();
        }
        if (text.length() > 400) {
            text.setLength(400);
        }
        return text.toString();
    }

    private void word(String word) {
        if (text.length() > 0) {
            char last = text.charAt(text.length() - 1);
            boolean close = !Character.isLetterOrDigit(last)
                    || !Character.isLetterOrDigit(word.charAt(0));
            int blanks = close ? random.nextInt(2) : 1 + random.nextInt(20) / 19;
            text.append(" ".repeat(blanks));
        }
        text.append(word);
    }

    private void clause() {
        if (isLaw) {
            int head = random.nextInt(3);
            word(new String[] {"shares", "taxes", "bars"}[head]);
            if (head < 2) {
                sum(0);
            }
            if (random.nextInt(2) == 0 || head == 2) {
                word("if");
                test(0);
            }
            return;
        }
        int head = random.nextInt(4);
        word(new String[] {"mark", "turn", "die", "pass"}[head]);
        if (head < 3) {
            small(6);
        }
        if (head < 2) {
            word(head == 0 ? "as" : "to");
            small(head == 0 ? 4 : 3);
        }
        if (random.nextInt(3) == 0) {
            word("times");
            word("" + (1 + random.nextInt(random.nextInt(5) == 0 ? 21 : 3)));
        }
        if (random.nextInt(2) == 0) {
            word("if");
            test(0);
        }
    }

    /** A SUM that is often a number below a bound, so that ORDERS can be. */
    private void small(int bound) {
        switch (random.nextInt(5)) {
            case 0:
                sum(0);
                break;
            case 1:
                word("[");
                sum(1);
                word("]");
                word("%");
                word("" + bound);
                break;
            default:
                word("" + random.nextInt(bound));
                break;
        }
    }

    private void test(int depth) {
        int many = 1 + random.nextInt(3) / 2 + random.nextInt(4) / 3;
        for (int i = 0; i < many; i++) {
            if (i > 0) {
                word(random.nextBoolean() ? "or" : "and");
            }
            for (int n = random.nextInt(5) / 3; n > 0; n--) {
                word("not");
            }
            if (depth < 9 && budget > 0 && random.nextInt(4) == 0) {
                budget--;
                word("(");
                test(depth + 1);
                word(")");
            } else {
                sum(depth);
                word(random.nextInt(3) == 0 ? "=" : random.nextBoolean() ? "<" : ">");
                sum(depth);
            }
        }
    }

    private void sum(int depth) {
        int many = 1 + random.nextInt(2) + random.nextInt(6) / 5;
        for (int i = 0; i < many; i++) {
            if (i > 0) {
                word(new String[] {"+", "-", "*", "/", "%"}[random.nextInt(5)]);
            }
            if (depth < 9 && budget > 0 && random.nextInt(5) == 0) {
                budget--;
                word("[");
                sum(depth + 1);
                word("]");
            } else {
                part();
            }
        }
    }

    private void part() {
        if (random.nextInt(2) == 0) {
            int[] bounds = {3, 7, 101, 1001};
            word("" + random.nextInt(bounds[random.nextInt(4)]));
            return;
        }
        if (isLaw) {
            word(LAW_WORDS[random.nextInt(LAW_WORDS.length)]);
            return;
        }
        if (random.nextInt(2) == 0) {
            word(random.nextBoolean() ? "mark" : "kind");
            word("" + random.nextInt(6));
            return;
        }
        word(ORDER_WORDS[random.nextInt(ORDER_WORDS.length)]);
    }

    private void spoil() {
        String odd = ODD[random.nextInt(ODD.length)];
        int at = random.nextInt(text.length() + 1);
        switch (random.nextInt(4)) {
            case 0:
                text.insert(at, odd);
                break;
            case 1:
                text.insert(at, " " + odd + " ");
                break;
            case 2:
                text.setLength(at);
                break;
            default:
                text.delete(at, Math.min(text.length(), at + 1 + random.nextInt(4)));
                break;
        }
    }
}
