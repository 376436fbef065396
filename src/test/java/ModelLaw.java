import java.util.ArrayList;
import java.util.List;
import java.util.Map;

/** A law of the model: read straight from its text into a tree of functions. */
final class ModelLaw {
    interface Value {
        long of(Map<String, Long> words);
    }

    static final class Fault extends Exception {
        private static final long serialVersionUID = 1;
        final int code;

        Fault(int place, int kind) {
            code = 1 + 8 * place + kind;
        }
    }

    record Clause(String kind, int number, Value value) { }

    private static final List<String> WORDS = List.of("self", "third", "source", "age", "lines", "press", "waits",
        "asked", "reports", "bills", "day");

    final int from;
    final List<Clause> clauses = new ArrayList<>();
    private final String text;
    private int at;
    private int counted;

    ModelLaw(String text, int from) throws Fault {
        this.text = text;
        this.from = from;
        do {
            clauses.add(clause());
            blanks();
        } while (taken(";"));
        if (at < text.length()) {
            throw new Fault(at, 0);
        }
    }

    int first(String kind, Map<String, Long> words) {
        for (int i = 0; i < clauses.size(); i++) {
            if (clauses.get(i).kind().equals(kind) && clauses.get(i).value().of(words) != 0) {
                return i;
            }
        }
        return -1;
    }

    long turn(Map<String, Long> words) {
        return clauses.stream().filter(c -> c.kind().equals("turn")).findFirst().map(c -> c.value().of(words)).orElse(0L);
    }

    private void blanks() {
        while (at < text.length() && text.charAt(at) == ' ') {
            at++;
        }
    }

    private boolean taken(String sign) {
        blanks();
        if (!text.startsWith(sign, at)) {
            return false;
        }
        at += sign.length();
        return true;
    }

    /** The run of small letters or of digits that stands here. */
    private String run(char least, char most) {
        blanks();
        int end = at;
        while (end < text.length() && text.charAt(end) >= least && text.charAt(end) <= most) {
            end++;
        }
        return text.substring(at, end);
    }

    private boolean word(String word) {
        if (!run('a', 'z').equals(word)) {
            return false;
        }
        at += word.length();
        return true;
    }

    private void must(boolean stands) throws Fault {
        if (!stands) {
            blanks();
            throw new Fault(at, 0);
        }
    }

    private void count() throws Fault {
        if (++counted > 80) {
            throw new Fault(at, 3);
        }
    }

    private Clause clause() throws Fault {
        String kind = run('a', 'z');
        must(List.of("read", "need", "turn").contains(kind));
        if (clauses.size() == 12) {
            throw new Fault(at, 4);
        }
        at += 4;
        if (kind.equals("turn")) {
            return new Clause(kind, 0, sum(0));
        }
        int number;
        if (kind.equals("read")) {
            String verb = run('a', 'z');
            number = List.of("let", "black", "bar").indexOf(verb);
            must(number >= 0);
            at += verb.length();
        } else {
            String digits = run('0', '9');
            must(!digits.isEmpty());
            if (digits.length() > 4 || Integer.parseInt(digits) > 99) {
                throw new Fault(at, 1);
            }
            number = Integer.parseInt(digits);
            at += digits.length();
        }
        must(word("if"));
        return new Clause(kind, number, test(0));
    }

    private Value test(int depth) throws Fault {
        Value left = part(depth);
        while (word("or")) {
            Value one = left;
            Value other = part(depth);
            left = w -> one.of(w) != 0 || other.of(w) != 0 ? 1 : 0;
        }
        return left;
    }

    private Value part(int depth) throws Fault {
        Value left = fact(depth);
        while (word("and")) {
            Value one = left;
            Value other = fact(depth);
            left = w -> one.of(w) != 0 && other.of(w) != 0 ? 1 : 0;
        }
        return left;
    }

    private void deeper(int depth) throws Fault {
        if (depth >= 10) {
            throw new Fault(at, 2);
        }
    }

    private Value fact(int depth) throws Fault {
        blanks();
        if (run('a', 'z').equals("not")) {
            deeper(depth);
            at += 3;
            Value inner = fact(depth + 1);
            return w -> inner.of(w) == 0 ? 1 : 0;
        }
        if (text.startsWith("[", at)) {
            deeper(depth);
            at++;
            Value inner = test(depth + 1);
            must(taken("]"));
            return inner;
        }
        Value left = sum(depth);
        blanks();
        String sign = "";
        for (String one : List.of("<=", ">=", "<", ">", "=")) {
            if (sign.isEmpty() && text.startsWith(one, at)) {
                sign = one;
            }
        }
        must(!sign.isEmpty());
        count();
        at += sign.length();
        Value right = sum(depth);
        String by = sign;
        return w -> compare(by, left.of(w), right.of(w)) ? 1 : 0;
    }

    private static boolean compare(String sign, long left, long right) {
        int order = Long.compare(left, right);
        return order < 0 && sign.startsWith("<") || order > 0 && sign.startsWith(">") || order == 0 && sign.endsWith("=");
    }

    private Value sum(int depth) throws Fault {
        Value left = term(depth);
        while (true) {
            Value one = left;
            if (taken("+")) {
                Value other = term(depth);
                left = w -> one.of(w) + other.of(w);
            } else if (taken("-")) {
                Value other = term(depth);
                left = w -> one.of(w) - other.of(w);
            } else {
                return left;
            }
        }
    }

    private Value term(int depth) throws Fault {
        Value left = value(depth);
        while (taken("*")) {
            Value one = left;
            Value other = value(depth);
            left = w -> one.of(w) * other.of(w);
        }
        return left;
    }

    private Value value(int depth) throws Fault {
        blanks();
        if (text.startsWith("(", at)) {
            deeper(depth);
            count();
            at++;
            Value inner = sum(depth + 1);
            must(taken(")"));
            return inner;
        }
        String digits = run('0', '9');
        if (!digits.isEmpty()) {
            if (digits.length() > 4) {
                throw new Fault(at, 1);
            }
            count();
            at += digits.length();
            long number = Long.parseLong(digits);
            return w -> number;
        }
        String name = run('a', 'z');
        must(WORDS.contains(name));
        count();
        at += name.length();
        return w -> w.getOrDefault(name, 0L);
    }
}
