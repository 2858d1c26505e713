import java.util.ArrayList;
import java.util.List;

/** A LAW as a tree, read and asked by plain recursion. */
final class OracleLaw {
    static final class Fault extends RuntimeException {
        private static final long serialVersionUID = 1L;
        final int place;

        Fault(int place) {
            this.place = place;
        }
    }

    private static final class Broken extends RuntimeException {
        private static final long serialVersionUID = 1L;
    }

    private static final List<String> WORDS = List.of("host", "guest", "base", "wit", "street", "met", "evening");

    private record Node(String kind, int number, Node left, Node right) { }

    private record Clause(Node sum, Node test) { }

    private final List<String> tokens = new ArrayList<>();
    private final List<Integer> places = new ArrayList<>();
    private final List<Clause> clauses = new ArrayList<>();
    private int at = 0;
    private int parts = 0;
    private int open = 0;

    OracleLaw(String text) {
        java.util.regex.Matcher m = java.util.regex.Pattern.compile("[a-z]+|[0-9]+|[^ ]",
            java.util.regex.Pattern.DOTALL).matcher(text);
        while (m.find()) {
            tokens.add(m.group());
            places.add(m.start());
        }
        tokens.add("");
        places.add(text.length());
        do {
            if (clauses.size() == 12) throw fault();
            clauses.add(clause());
        } while (took(";"));
        if (!tokens.get(at).isEmpty()) throw fault();
    }

    private Fault fault() {
        return new Fault(places.get(at));
    }

    private boolean took(String token) {
        if (!tokens.get(at).equals(token)) return false;
        at++;
        return true;
    }

    private void need(String token) {
        if (!took(token)) throw fault();
    }

    private Clause clause() {
        Node sum = null;
        if (took("worth")) sum = sum();
        else need("bars");
        return new Clause(sum, took("if") ? test() : null);
    }

    private Node test() {
        Node left = both();
        while (took("or")) left = new Node("or", 0, left, both());
        return left;
    }

    private Node both() {
        Node left = plain();
        while (took("and")) left = new Node("and", 0, left, plain());
        return left;
    }

    private void openOne(String bracket) {
        if (open == 8) throw fault();
        need(bracket);
        open++;
    }

    private Node plain() {
        if (took("not")) return new Node("not", 0, plain(), null);
        if (tokens.get(at).equals("(")) {
            openOne("(");
            Node inside = test();
            need(")");
            open--;
            return inside;
        }
        Node left = sum();
        String sign = tokens.get(at);
        if (!took("<") && !took(">") && !took("=")) throw fault();
        return new Node(sign, 0, left, sum());
    }

    private Node sum() {
        Node left = term();
        while (true) {
            if (took("+")) left = new Node("+", 0, left, term());
            else if (took("-")) left = new Node("-", 0, left, term());
            else return left;
        }
    }

    private Node term() {
        Node left = part();
        while (true) {
            if (took("*")) left = new Node("*", 0, left, part());
            else if (took("/")) left = new Node("/", 0, left, part());
            else return left;
        }
    }

    private Node part() {
        String token = tokens.get(at);
        if (token.equals("[")) {
            openOne("[");
            Node inside = sum();
            need("]");
            open--;
            return inside;
        }
        boolean number = token.matches("[0-9]+")
            && new java.math.BigInteger(token).compareTo(java.math.BigInteger.valueOf(1000)) <= 0;
        if (!number && !WORDS.contains(token)) throw fault();
        parts++;
        if (parts > 50) throw fault();
        at++;
        if (number) return new Node("number", new java.math.BigInteger(token).intValue(), null, null);
        return new Node("word", WORDS.indexOf(token), null, null);
    }

    private static long value(Node n, int[] words) {
        if (n.kind.equals("number")) return n.number;
        if (n.kind.equals("word")) return words[n.number];
        long a = value(n.left, words);
        long b = value(n.right, words);
        if (n.kind.equals("/") && b == 0) throw new Broken();
        long result = switch (n.kind) {
            case "+" -> a + b;
            case "-" -> a - b;
            case "*" -> a * b;
            default -> a / b;
        };
        if (Math.abs(result) > 1000000000L) throw new Broken();
        return result;
    }

    private static boolean isSo(Node n, int[] words) {
        switch (n.kind) {
            case "or":
                return isSo(n.left, words) || isSo(n.right, words);
            case "and":
                return isSo(n.left, words) && isSo(n.right, words);
            case "not":
                return !isSo(n.left, words);
            default:
                int order = Long.compare(value(n.left, words), value(n.right, words));
                return n.kind.equals("<") ? order < 0 : n.kind.equals(">") ? order > 0 : order == 0;
        }
    }

    int worth(int[] words) {
        for (int i = clauses.size() - 1; i >= 0; i--) {
            Clause c = clauses.get(i);
            try {
                if (c.sum != null && (c.test == null || isSo(c.test, words))) {
                    return (int) Math.max(-99, Math.min(99, value(c.sum, words)));
                }
            } catch (Broken b) {
                continue;
            }
        }
        return words[2];
    }

    boolean bars(int[] words) {
        for (Clause c : clauses) {
            try {
                if (c.sum == null && (c.test == null || isSo(c.test, words))) return true;
            } catch (Broken b) {
                continue;
            }
        }
        return false;
    }
}
