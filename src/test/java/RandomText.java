import java.util.Random;

/** Texts of laws by chance, most of them as the language wants it, some of them spoilt. */
final class RandomText {
    private static final String[] WORDS = {"self", "third", "source", "age", "lines", "press", "waits", "asked",
        "reports", "bills", "day"};
    private static final String[] SIGNS = {"<", "<=", "=", ">=", ">"};
    private static final String[] PIECES = {"read", "let", "not", "[", "]", "(", ")", "and", "or", "if", "need", "turn",
        ";", "<", "=", ">", "+", "-", "*", "12345", "100", "x", "days", " ", "?", "black", "bar", "1", "\t"};

    private final Random random;
    private final StringBuilder text = new StringBuilder();
    private final int nesting;

    RandomText(Random random) {
        this.random = random;
        nesting = random.nextInt(6) == 0 ? 13 : 2;
    }

    String law() {
        int clauses = random.nextInt(6) == 0 ? 1 + random.nextInt(14) : 1 + random.nextInt(4);
        for (int i = 0; i < clauses; i++) {
            blank();
            text.append(i > 0 ? ";" : "");
            blank();
            clause();
        }
        if (random.nextInt(3) == 0) {
            spoil();
        }
        return text.length() > 400 ? text.substring(0, random.nextInt(4) == 0 ? 400 : random.nextInt(400)) : text.toString();
    }

    private void spoil() {
        int place = random.nextInt(text.length() + 1);
        int end = random.nextBoolean() ? place : Math.min(text.length(), place + random.nextInt(6));
        text.replace(place, end, random.nextInt(4) == 0 ? "" : PIECES[random.nextInt(PIECES.length)]);
        if (random.nextInt(5) == 0) {
            text.setLength(random.nextInt(text.length() + 1));
        }
    }

    private void blank() {
        text.append(random.nextInt(3) == 0 ? " " : "");
    }

    private void clause() {
        switch (random.nextInt(5)) {
            case 0 -> {
                text.append("turn ");
                sum(nesting);
            }
            case 1 -> {
                text.append("need ").append(random.nextInt(30) == 0 ? 100 : random.nextInt(6)).append(" if ");
                test(nesting);
            }
            default -> {
                text.append("read ").append(new String[] {"let", "black", "bar"}[random.nextInt(3)]).append(" if ");
                test(nesting);
            }
        }
    }

    private void test(int left) {
        fact(left);
        for (int i = random.nextInt(3); i > 0; i--) {
            text.append(random.nextBoolean() ? " and " : " or ");
            fact(left);
        }
    }

    private void fact(int left) {
        int dice = random.nextInt(nesting > 2 ? 3 : 8);
        if (left > 0 && dice == 0) {
            text.append("not ");
            fact(left - 1);
        } else if (left > 0 && dice == 1) {
            text.append("[");
            if (nesting > 2) {
                fact(left - 1);
            } else {
                test(left - 1);
            }
            text.append("]");
        } else {
            sum(left);
            blank();
            text.append(SIGNS[random.nextInt(SIGNS.length)]);
            blank();
            sum(Math.min(left, 2));
        }
    }

    private void sum(int left) {
        value(left);
        for (int i = random.nextInt(40) == 0 ? 50 : random.nextInt(3); i > 0; i--) {
            text.append("+-*".charAt(random.nextInt(3)));
            blank();
            value(left > 2 ? 0 : left - 1);
        }
    }

    private void value(int left) {
        if (left > 0 && random.nextInt(nesting > 2 ? 2 : 8) == 0) {
            text.append("(");
            sum(left - 1);
            text.append(")");
        } else if (random.nextInt(3) == 0) {
            text.append(random.nextInt(40) == 0 ? 9999 : random.nextInt(4));
        } else {
            text.append(WORDS[random.nextInt(WORDS.length)]);
        }
    }
}
