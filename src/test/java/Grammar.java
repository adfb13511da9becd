import java.util.ArrayList;
import java.util.HashMap;
import java.util.LinkedHashSet;
import java.util.List;
import java.util.Map;
import java.util.Set;

/**
 * The two languages as the document writes them, read by Earley's method, which follows every reading
 * at once: so it tells the first TOKEN that can't go on without being a parser of the usual kind.
 */
final class Grammar {
    record Token(String text, int place) {
        boolean isNumber() {
            return Character.isDigit(text.charAt(0));
        }

        int value() {
            String plain = text.replaceFirst("^0+(?=.)", "");
            return plain.length() > 4 ? 9999 : Integer.parseInt(plain);
        }
    }

    private record Item(String head, List<String> body, int dot, int from) {
        String next() {
            return dot < body.size() ? body.get(dot) : null;
        }

        Item on() {
            return new Item(head, body, dot + 1, from);
        }
    }

    private static final String COMMON = """
        TEXT: CLAUSE
        TEXT: TEXT ; CLAUSE
        IF:
        IF: if TEST
        TEST: BOTH
        TEST: TEST or BOTH
        BOTH: PLAIN
        BOTH: BOTH and PLAIN
        PLAIN: not PLAIN
        PLAIN: ( TEST )
        PLAIN: SUM < SUM
        PLAIN: SUM > SUM
        PLAIN: SUM = SUM
        SUM: TERM
        SUM: SUM + TERM
        SUM: SUM - TERM
        TERM: PART
        TERM: TERM * PART
        TERM: TERM / PART
        TERM: TERM % PART
        PART: #1000
        PART: [ SUM ]
        """;
    private static final String LAWS = """
        CLAUSE: prices SUM IF
        CLAUSE: lasts SUM IF
        CLAUSE: earns SUM IF
        CLAUSE: bars IF
        PART: dead
        PART: family
        PART: vault
        PART: term
        PART: means
        PART: beds
        PART: free
        PART: year
        PART: mood
        """;
    private static final String ORDERS = """
        CLAUSE: renew SUM TIMES IF
        CLAUSE: lodge SUM in SUM TIMES IF
        CLAUSE: knock SUM TIMES IF
        CLAUSE: pass TIMES IF
        TIMES:
        TIMES: times #20
        PART: year
        PART: done
        PART: latest
        PART: inside
        PART: term #7
        PART: means #3
        """;

    private final Map<String, List<List<String>>> rules = new HashMap<>();
    private final boolean orders;

    Grammar(boolean orders) {
        this.orders = orders;
        for (String line : (COMMON + (orders ? ORDERS : LAWS)).split("\n")) {
            String[] sides = line.trim().split(":", 2);
            String body = sides[1].trim();
            rules.computeIfAbsent(sides[0], k -> new ArrayList<>())
                .add(body.isEmpty() ? List.of() : List.of(body.split(" +")));
        }
    }

    static List<Token> tokens(byte[] bytes) {
        List<Token> all = new ArrayList<>();
        String text = new String(bytes, java.nio.charset.StandardCharsets.ISO_8859_1);
        var found = java.util.regex.Pattern.compile("[a-z]+|[0-9]+|[^ ]", java.util.regex.Pattern.DOTALL).matcher(text);
        while (found.find()) {
            all.add(new Token(found.group(), found.start()));
        }
        return all;
    }

    /** The place of the FAULT, or -1. */
    int fault(byte[] bytes) {
        List<Token> tokens = tokens(bytes);
        int bad = Math.min(firstThatCannotGoOn(tokens), firstBeyondLimits(tokens));
        if (bad == Integer.MAX_VALUE) {
            return -1;
        }
        return bad < tokens.size() ? tokens.get(bad).place() : bytes.length;
    }

    private int firstThatCannotGoOn(List<Token> tokens) {
        Set<Item> start = new LinkedHashSet<>();
        for (List<String> body : rules.get("TEXT")) {
            start.add(new Item("TEXT", body, 0, 0));
        }
        List<Set<Item>> sets = new ArrayList<>();
        sets.add(start);
        for (int i = 0; i <= tokens.size(); i++) {
            List<Item> work = new ArrayList<>(sets.get(i));
            Set<Item> here = sets.get(i);
            Set<Item> then = new LinkedHashSet<>();
            for (int w = 0; w < work.size(); w++) {
                Item item = work.get(w);
                List<Item> come = new ArrayList<>();
                if (item.next() == null) {
                    for (Item waiting : sets.get(item.from())) {
                        if (item.head().equals(waiting.next())) {
                            come.add(waiting.on());
                        }
                    }
                } else if (rules.containsKey(item.next())) {
                    for (List<String> body : rules.get(item.next())) {
                        come.add(new Item(item.next(), body, 0, i));
                        if (body.isEmpty()) {
                            come.add(item.on());
                        }
                    }
                } else if (i < tokens.size() && fits(item.next(), tokens, i)) {
                    then.add(item.on());
                }
                for (Item one : come) {
                    if (here.add(one)) {
                        work.add(one);
                    }
                }
            }
            if (i == tokens.size()) {
                boolean whole = here.stream().anyMatch(t -> t.next() == null && t.head().equals("TEXT") && t.from() == 0);
                return whole ? Integer.MAX_VALUE : i;
            }
            if (then.isEmpty()) {
                return i;
            }
            sets.add(then);
        }
        return Integer.MAX_VALUE;
    }

    private static boolean fits(String terminal, List<Token> tokens, int i) {
        Token token = tokens.get(i);
        if (!terminal.startsWith("#")) {
            return terminal.equals(token.text());
        }
        int least = terminal.equals("#20") ? 1 : 0;
        int most = Integer.parseInt(terminal.substring(1));
        return token.isNumber() && token.value() >= least && token.value() <= most;
    }

    private int firstBeyondLimits(List<Token> tokens) {
        int clauses = 1;
        int parts = 0;
        int depth = 0;
        for (int i = 0; i < tokens.size(); i++) {
            String text = tokens.get(i).text();
            String before = i == 0 ? "" : tokens.get(i - 1).text();
            boolean aside = orders && List.of("term", "means", "times").contains(before);
            if (clauses == 13) {
                return i;
            }
            clauses += text.equals(";") ? 1 : 0;
            boolean number = tokens.get(i).isNumber() && !aside;
            parts += number || isPart(text) ? 1 : 0;
            depth += text.equals("(") || text.equals("[") ? 1 : 0;
            depth -= text.equals(")") || text.equals("]") ? 1 : 0;
            if (parts == 51 || depth == 9) {
                return i;
            }
        }
        return clauses == 13 ? tokens.size() : Integer.MAX_VALUE;
    }

    private boolean isPart(String text) {
        return rules.get("PART").stream().anyMatch(body -> body.get(0).equals(text) && !text.equals("["));
    }
}
