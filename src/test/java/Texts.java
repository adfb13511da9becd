import java.util.ArrayList;
import java.util.List;
import java.util.Random;

/** Makes random TEXTS of either language, right ones and spoilt ones. */
final class Texts {
    private static final String[] LAW_WORDS = {"dead", "family", "vault", "term", "means", "beds", "free", "year", "mood"};
    private static final String[] ODD = {";", "if", "or", "and", "not", "in", "times", "term", "means", "(", ")", "[", "]", "<", ">",
        "=", "+", "-", "*", "/", "%", "0", "1", "7", "8", "20", "21", "1000", "1001", "prices", "lasts", "earns", "bars", "renew",
        "lodge", "knock", "pass", "dead", "inside", "done", "latest", "year", "ifs", "x", "A", "?", "\t"};

    private final Random random;
    private final boolean orders;
    private final List<String> tokens = new ArrayList<>();

    Texts(Random random, boolean orders) {
        this.random = random;
        this.orders = orders;
    }

    private int draw(int n) {
        return random.nextInt(n);
    }

    private String one(String... of) {
        return of[draw(of.length)];
    }

    /** A right TEXT of so many CLAUSES, but for the limits. */
    byte[] right(int clauses, int depth) {
        tokens.clear();
        for (int i = 0; i < clauses; i++) {
            if (i > 0) {
                tokens.add(";");
            }
            clause(depth);
        }
        return written();
    }

    byte[] spoilt(int clauses, int depth) {
        right(clauses, depth);
        for (int i = draw(3); i >= 0; i--) {
            int at = draw(tokens.size() + 1);
            switch (draw(3)) {
                case 0 -> tokens.add(at, one(ODD));
                case 1 -> {
                    if (at < tokens.size()) {
                        tokens.set(at, one(ODD));
                    }
                }
                default -> {
                    if (at < tokens.size()) {
                        tokens.remove(at);
                    }
                }
            }
        }
        return written();
    }

    private byte[] written() {
        StringBuilder all = new StringBuilder();
        String before = "";
        for (String token : tokens) {
            boolean apart = !before.isEmpty() && sort(before) == sort(token) && sort(token) > 0;
            all.append(" ".repeat(apart || draw(4) == 0 ? 1 + draw(5) / 4 : 0)).append(token);
            before = token;
        }
        all.append(" ".repeat(draw(8) / 7));
        byte[] bytes = Check.bytes(all.toString());
        return bytes.length <= 400 ? bytes : java.util.Arrays.copyOf(bytes, 400);
    }

    private static int sort(String token) {
        char sign = token.charAt(0);
        return Character.isLowerCase(sign) ? 1 : Character.isDigit(sign) ? 2 : 0;
    }

    private void clause(int depth) {
        if (orders) {
            order(depth);
        } else {
            String head = one("prices", "lasts", "earns", "bars");
            tokens.add(head);
            if (!head.equals("bars")) {
                sum(depth);
            }
        }
        if (draw(3) > 0) {
            tokens.add("if");
            test(depth);
        }
    }

    private void order(int depth) {
        String head = one("renew", "lodge", "knock", "pass");
        tokens.add(head);
        if (!head.equals("pass")) {
            few(depth);
        }
        if (head.equals("lodge")) {
            tokens.add("in");
            few(depth);
        }
        if (draw(4) == 0) {
            tokens.add("times");
            tokens.add("" + (1 + draw(draw(2) == 0 ? 3 : 20)));
        }
    }

    /** Mostly a small number, so that there is such a one. */
    private void few(int depth) {
        if (draw(4) > 0) {
            tokens.add("" + draw(5));
        } else {
            sum(depth);
        }
    }

    private void test(int depth) {
        plain(depth);
        for (int i = draw(3); i > 0; i--) {
            tokens.add(one("or", "and"));
            plain(depth);
        }
    }

    private void plain(int depth) {
        int kind = draw(5);
        if (kind == 0) {
            tokens.add("not");
            plain(depth);
        } else if (kind == 1 && depth > 0) {
            tokens.add("(");
            test(depth - 1);
            tokens.add(")");
        } else {
            sum(depth);
            tokens.add(one("<", ">", "="));
            sum(depth);
        }
    }

    private void sum(int depth) {
        part(depth);
        for (int i = draw(5) - 2; i > 0; i--) {
            tokens.add(one("+", "-", "*", "/", "%"));
            part(depth);
        }
    }

    private void part(int depth) {
        int kind = draw(6);
        if (kind == 0 && depth > 0) {
            tokens.add("[");
            sum(depth - 1);
            tokens.add("]");
        } else if (kind < 3) {
            tokens.add("" + (draw(9) == 0 ? draw(1001) : draw(13)));
        } else if (!orders) {
            tokens.add(one(LAW_WORDS));
        } else {
            String word = one("year", "done", "latest", "inside", "term", "means");
            tokens.add(word);
            if (word.equals("term") || word.equals("means")) {
                tokens.add("" + draw(word.equals("term") ? 8 : 4));
            }
        }
    }
}
