import java.lang.reflect.Method;
import java.util.Arrays;
import java.util.HashMap;
import java.util.Map;
import java.util.Random;

/** Random runs of 512 calls, each answer beside that of Model. */
public final class RunsTest {
    private static final Check c = new Check();
    private static final Map<String, Method> METHODS = new HashMap<>();
    private static final String[] ASKED = {"at", "has", "of", "asks", "inside", "empty", "keep", "when", "stranger", "look", "rooms",
        "packed", "changes", "few", "compare", "drawn", "count", "status", "fault", "stopped", "draughts"};
    private static final String[] CHANGED = {"vault", "family", "dead", "wish", "wish", "terms", "force", "renew", "renew", "lodge",
        "lodge", "knock", "pass", "undo", "seen", "forget", "centuries", "image", "back", "row", "law", "orders", "orders", "feed", "end"};

    private final VaultLeases x = new VaultLeases();
    private final Model model = new Model();
    private final Random random;
    private final StringBuilder log = new StringBuilder();
    private int calls = 0;

    private RunsTest(int seed) {
        random = new Random(seed);
    }

    public static void main(String[] args) throws ReflectiveOperationException {
        int runs = args.length > 0 ? Integer.parseInt(args[0]) : 700;
        int from = args.length > 1 ? Integer.parseInt(args[1]) : 0;
        for (Method m : VaultLeases.class.getDeclaredMethods()) {
            METHODS.put(m.getName(), m);
        }
        for (int seed = from; seed < from + runs && c.wrong() < 5; seed++) {
            c.about("run " + seed);
            new RunsTest(seed).run(seed % 4);
        }
        c.finish("RunsTest");
    }

    private void run(int kind) throws ReflectiveOperationException {
        if (kind > 0) {
            settle(kind);
        }
        while (calls < 512 && c.wrong() == 0) {
            if (random.nextInt(kind == 3 ? 4 : 2) == 0) {
                change(CHANGED[random.nextInt(CHANGED.length)]);
            } else {
                ask(ASKED[random.nextInt(ASKED.length)]);
            }
        }
        if (c.wrong() > 0) {
            System.out.println(log);
        }
    }

    /** A ground with much on it; for kind 3 many who are soon OUT and have WISHES. */
    private void settle(int kind) throws ReflectiveOperationException {
        for (int i = 0; i < 5; i++) {
            call("vault", 1 + draw(3));
        }
        for (int i = 0; i < 1 + draw(4); i++) {
            call("family", draw(2) == 0 ? draw(60) : draw(1000));
        }
        for (int i = 0; i < 12; i++) {
            call("dead", draw(4), draw(5), 1 + (kind == 3 ? draw(3) : draw(30)));
        }
        for (int i = 0; i < 40; i++) {
            call("wish", i / 5, i % 5, draw(kind == 3 ? 3 : 10));
        }
        for (int i = 0; i < 3; i++) {
            change("law");
        }
        call("force", draw(2));
    }

    private int draw(int n) {
        return random.nextInt(n);
    }

    /** Mostly 0 .. n - 1, now and then just beside it or far off. */
    private int near(int n) {
        int kind = draw(30);
        if (kind == 0) {
            return draw(2) == 0 ? -1 - draw(2) : n + draw(2);
        }
        return kind == 1 ? random.nextInt() : draw(n);
    }

    private void call(String name, int... a) throws ReflectiveOperationException {
        if (calls >= 512) {
            return;
        }
        calls++;
        Object[] given = Arrays.stream(a).boxed().toArray();
        String text = name + Arrays.toString(a);
        long got = ((Number) METHODS.get(name).invoke(x, given)).longValue();
        long due = model.call(name, a);
        log.append(text).append(" ").append(got).append("\n");
        c.due(text, got, due);
    }

    private void ask(String name) throws ReflectiveOperationException {
        switch (name) {
            case "at" -> call(name, near(5), near(3));
            case "has" -> call(name, near(4), near(4));
            case "of" -> call(name, near(8), near(6));
            case "asks" -> call(name, near(8), near(5), near(2));
            case "inside" -> call(name, draw(3) == 0 ? near(100) : near(20));
            case "keep" -> call(name, near(4), 1 + near(draw(3) == 0 ? 99 : 30), near(3));
            case "when" -> call(name, near(8), near(2));
            case "look", "packed" -> call(name, near(2));
            case "rooms" -> call(name, near(10));
            case "changes" -> call(name, near(8) - 1);
            case "few" -> call(name, 1 + near(20), near(100));
            case "compare" -> call(name, near(7) - 1);
            case "drawn" -> call(name, near(8), near(3));
            case "count" -> call(name, near(17));
            default -> call(name);
        }
    }

    private void change(String name) throws ReflectiveOperationException {
        switch (name) {
            case "vault" -> call(name, 1 + near(3));
            case "family", "terms" -> rarely(name);
            case "dead" -> call(name, near(4), near(5), 1 + near(draw(3) == 0 ? 99 : 9));
            case "wish" -> call(name, near(8), near(5), near(10));
            case "force" -> call(name, near(7) - 1);
            case "renew", "knock" -> call(name, near(8));
            case "lodge" -> call(name, near(8), near(5));
            case "seen" -> call(name, near(draw(2) == 0 ? 100 : 10), near(2));
            case "centuries" -> call(name, near(1000001), 1 + near(60));
            case "image", "back" -> call(name, draw(20) == 0 ? near(2) : draw(2));
            case "row" -> row();
            case "law", "orders" -> text(name.equals("orders"));
            case "feed" -> call(name, random.nextInt(), random.nextInt(), random.nextInt(), random.nextInt(), random.nextInt());
            case "end" -> call(name, near(41));
            default -> call(name);
        }
    }

    /** These would end all that can be undone too often. */
    private void rarely(String name) throws ReflectiveOperationException {
        if (name.equals("family")) {
            call(name, near(draw(3) == 0 ? 1000 : 40));
        } else if (draw(3) == 0) {
            int what = near(3);
            call(name, what, near(what == 0 ? 1000 : what == 1 ? 11 : 10));
        } else if (draw(9) == 0) {
            call(name, 0, 999 - draw(20));
        }
    }

    private void row() throws ReflectiveOperationException {
        byte[] bytes = new byte[1 + draw(12)];
        for (int i = 0; i < bytes.length; i++) {
            bytes[i] = (byte) near(i % 3 == 0 ? 4 : i % 3 == 1 ? 5 : 12);
        }
        put(bytes);
        call("row");
    }

    private void text(boolean orders) throws ReflectiveOperationException {
        Texts texts = new Texts(random, orders);
        int clauses = 1 + draw(orders ? 4 : 6);
        int depth = draw(3);
        put(draw(6) == 0 ? texts.spoilt(clauses, depth) : texts.right(clauses, depth));
        call(orders ? "orders" : "law");
        if (draw(3) == 0) {
            call(orders ? "stopped" : "fault");
        }
        if (!orders && draw(2) == 0) {
            call("force", draw(6));
        }
    }

    private void put(byte[] bytes) throws ReflectiveOperationException {
        if (draw(10) > 0) {
            call("end", 0);
        }
        for (int i = 0; i < bytes.length; i += 20) {
            call("feed", Check.numbers(bytes, i));
        }
        call("end", bytes.length);
    }
}
