import java.util.Random;

/** TEXTS by the grammar of LAWS, some of them spoilt. */
final class RandomTexts {
    private static final String[] WORDS = {"host", "guest", "base", "wit", "street", "met", "evening"};
    private static final String[] SPOILS = {"worth", "bars", "if", "or", "and", "not", "(", ")", "[", "]", "<", ">", "=",
        "+", "-", "*", "/", ";", "1001", "1000", "00007", "hosts", "x", "A", "!", "\t", "" + (char) 200, "" + (char) 0};

    private final Random random;
    private final StringBuilder text = new StringBuilder();

    RandomTexts(Random random) {
        this.random = random;
    }

    String next() {
        text.setLength(0);
        if (random.nextInt(12) == 0) {
            return soup();
        }
        int clauses = random.nextInt(12) == 0 ? 10 + random.nextInt(5) : 1 + random.nextInt(4);
        for (int i = 0; i < clauses; i++) {
            if (i > 0) put(";");
            clause(clauses > 5 ? 0 : 2);
        }
        if (random.nextInt(8) == 0) text.append("   ".substring(random.nextInt(3)));
        if (random.nextInt(4) == 0) spoil();
        return text.length() > 400 ? text.substring(0, 400) : text.toString();
    }

    /** TOKENS, or bytes, in any order. */
    private String soup() {
        boolean bytes = random.nextBoolean();
        int length = random.nextInt(400);
        while (text.length() < length) {
            if (bytes) text.append((char) random.nextInt(256));
            else put(random.nextBoolean() ? SPOILS[random.nextInt(SPOILS.length)] : WORDS[random.nextInt(WORDS.length)]);
        }
        return text.length() > 400 ? text.substring(0, 400) : text.toString();
    }

    private void put(String token) {
        char last = text.length() == 0 ? ' ' : text.charAt(text.length() - 1);
        char first = token.charAt(0);
        boolean sticks = Character.isLetter(last) && Character.isLetter(first)
            || Character.isDigit(last) && Character.isDigit(first);
        if (sticks || random.nextInt(3) == 0) text.append(' ');
        text.append(token);
    }

    private void spoil() {
        String piece = SPOILS[random.nextInt(SPOILS.length)];
        int place = random.nextInt(text.length() + 1);
        switch (random.nextInt(3)) {
            case 0:
                text.insert(place, piece);
                break;
            case 1:
                text.setLength(place);
                break;
            default:
                text.delete(place, Math.min(text.length(), place + 1 + random.nextInt(4)));
        }
    }

    private void clause(int depth) {
        if (random.nextInt(3) == 0) {
            put("bars");
            put("if");
            test(depth);
        } else {
            put("worth");
            sum(depth);
            if (random.nextInt(2) == 0) {
                put("if");
                test(depth);
            }
        }
    }

    private void test(int depth) {
        plain(depth);
        while (random.nextInt(4) == 0) {
            put(random.nextBoolean() ? "or" : "and");
            plain(depth);
        }
    }

    private void plain(int depth) {
        while (random.nextInt(5) == 0) put("not");
        if (depth > 0 && random.nextInt(3) == 0) {
            int deep = random.nextInt(12) == 0 ? 7 + random.nextInt(3) : 1;
            for (int i = 0; i < deep; i++) put("(");
            test(depth - 1);
            for (int i = 0; i < deep; i++) put(")");
            return;
        }
        sum(depth);
        put("<>=".substring(random.nextInt(3)).substring(0, 1));
        sum(depth - 1);
    }

    private void sum(int depth) {
        part(depth);
        while (random.nextInt(3) == 0) {
            put("+-*/".substring(random.nextInt(4)).substring(0, 1));
            part(depth);
        }
    }

    private void part(int depth) {
        int kind = random.nextInt(10);
        if (kind == 0 && depth > 0) {
            int deep = random.nextInt(12) == 0 ? 7 + random.nextInt(3) : 1;
            for (int i = 0; i < deep; i++) put("[");
            sum(depth - 1);
            for (int i = 0; i < deep; i++) put("]");
        } else if (kind < 6) {
            put(WORDS[random.nextInt(WORDS.length)]);
        } else {
            put(Integer.toString(random.nextInt(6) == 0 ? random.nextInt(1001) : random.nextInt(8)));
        }
    }
}
