import java.util.ArrayList;
import java.util.List;
import java.util.regex.Matcher;
import java.util.regex.Pattern;

/** RULES read by descent through the grammar of the document, line for line. */
final class OracleRules {
    /** A leaf has kind -1 and a number, or is a WHAT; a word or sign of one side has no left. */
    static final class Tree {
        String op;
        int kind = -1;
        int number;
        Tree left;
        Tree right;
    }

    record Line(int level, Tree tree) { }
    private record Token(String text, int place) { }

    private static final class Fault extends RuntimeException {
        private static final long serialVersionUID = 1L;
        final int kind;
        final int place;

        Fault(int kind, int place) {
            this.kind = kind;
            this.place = place;
        }
    }

    private static final Pattern TOKEN = Pattern.compile("[a-z]+|[0-9]+|<=|<>|>=|[^\\n ]", Pattern.DOTALL);
    private static final List<String> KINDS = List.of("tremor", "tilt", "gas", "heat");
    private static final List<String> WHATS = List.of("last", "first", "sum", "max", "min", "count", "gaps");

    final List<Line> lines = new ArrayList<>();
    int lineCount = 0;
    int keep = 0;
    int knots = 0;
    int faultKind = 0;
    int faultPlace = -1;
    private boolean kept = false;
    private final List<Token> tokens = new ArrayList<>();
    private int at = 0;
    private int open = 0;

    OracleRules(String text) {
        Matcher matcher = TOKEN.matcher(text);
        while (matcher.find()) {
            tokens.add(new Token(matcher.group(), matcher.start()));
        }
        tokens.add(new Token("", text.length()));
        try {
            while (!is("")) {
                line();
                lineCount++;
            }
        } catch (Fault fault) {
            faultKind = fault.kind;
            faultPlace = fault.place;
        }
    }

    private boolean is(String text) {
        return tokens.get(at).text().equals(text);
    }

    private Fault fault(int kind) {
        return new Fault(kind, tokens.get(at).place());
    }

    private String take(String... allowed) {
        for (String text : allowed) {
            if (is(text)) {
                return tokens.get(at++).text();
            }
        }
        throw fault(1);
    }

    private boolean isNumber() {
        return tokens.get(at).text().matches("[0-9]+");
    }

    private int number(int least, int most) {
        if (!isNumber()) {
            throw fault(1);
        }
        java.math.BigInteger value = new java.math.BigInteger(tokens.get(at).text());
        if (value.compareTo(java.math.BigInteger.valueOf(most)) > 0 || value.intValue() < least) {
            throw fault(2);
        }
        at++;
        return value.intValue();
    }

    private void knot() {
        if (knots == 64) {
            throw fault(2);
        }
        knots++;
    }

    private void line() {
        if (is("keep")) {
            if (kept) {
                throw fault(3);
            }
            kept = true;
            at++;
            keep = number(0, 24);
        } else if (is("level")) {
            if (lines.size() == 12) {
                throw fault(2);
            }
            at++;
            int level = number(1, 4);
            lines.add(new Line(level, or()));
        } else {
            throw fault(1);
        }
        take(";");
    }

    private Tree two(String op, Tree left, Tree right) {
        Tree tree = new Tree();
        tree.op = op;
        tree.left = left;
        tree.right = right;
        return tree;
    }

    private String sign(String... signs) {
        for (String sign : signs) {
            if (is(sign)) {
                knot();
                return take(sign);
            }
        }
        return null;
    }

    private Tree or() {
        Tree tree = and();
        for (String s = sign("or"); s != null; s = sign("or")) {
            tree = two(s, tree, and());
        }
        return tree;
    }

    private Tree and() {
        Tree tree = not();
        for (String s = sign("and"); s != null; s = sign("and")) {
            tree = two(s, tree, not());
        }
        return tree;
    }

    private Tree not() {
        String s = sign("not");
        return s != null ? two(s, null, not()) : comparison();
    }

    private Tree comparison() {
        Tree tree = sum();
        String s = sign("<", "<=", "=", "<>", ">=", ">");
        return s == null ? tree : two(s, tree, sum());
    }

    private Tree sum() {
        Tree tree = product();
        for (String s = sign("+", "-"); s != null; s = sign("+", "-")) {
            tree = two(s, tree, product());
        }
        return tree;
    }

    private Tree product() {
        Tree tree = minus();
        for (String s = sign("*", "/"); s != null; s = sign("*", "/")) {
            tree = two(s, tree, minus());
        }
        return tree;
    }

    private Tree minus() {
        return sign("-") != null ? two("neg", null, minus()) : plain();
    }

    private void openOne() {
        if (is("(") && open == 8) {
            throw fault(2);
        }
        take("(");
        open++;
    }

    private void closeOne() {
        take(")");
        open--;
    }

    private Tree plain() {
        Tree tree = new Tree();
        if (isNumber()) {
            int place = at;
            tree.number = number(0, 99999);
            at = place;
            knot();
            at++;
        } else if (is("(")) {
            openOne();
            tree = or();
            closeOne();
        } else {
            if (!WHATS.contains(tokens.get(at).text())) {
                throw fault(1);
            }
            tree.op = sign(WHATS.toArray(new String[0]));
            openOne();
            tree.kind = KINDS.indexOf(take(KINDS.toArray(new String[0])));
            take(",");
            tree.number = number(1, 48);
            closeOne();
        }
        return tree;
    }
}
