import java.util.Random;

/** rooms(), packed() and changes() on grounds with few BEDS, many bars and many equal WISHES. */
public final class BedsTest {
    private static final Check c = new Check();

    private final VaultLeases x = new VaultLeases();
    private final Model model = new Model();
    private final Random random;

    private BedsTest(int seed) {
        random = new Random(seed);
    }

    public static void main(String[] args) {
        for (int seed = 0; seed < 2500 && c.wrong() < 10; seed++) {
            c.about("ground " + seed);
            new BedsTest(seed).ask(seed % 50 == 0 ? 8 : 6);
        }
        c.finish("BedsTest");
    }

    private int draw(int n) {
        return random.nextInt(n);
    }

    private void both(String call, int due, int... a) {
        c.due(call, model.call(call, a), due);
    }

    private void ask(int mostOut) {
        int vaults = 1 + draw(5);
        for (int v = 0; v < vaults; v++) {
            int beds = 1 + draw(3);
            both("vault", x.vault(beds), beds);
        }
        both("family", x.family(9), 9);
        int out = 0;
        for (int d = 0; d < 8; d++) {
            int term = draw(5) > 0 && out < mostOut ? 1 : 9;
            int vault = draw(vaults);
            out += term == 1 ? 1 : 0;
            both("dead", x.dead(0, vault, term), 0, vault, term);
        }
        askPacked();
        both("pass", x.pass());
        fill(vaults);
        wish(vaults);
        bar(vaults);
        int[] due = model.allRooms();
        for (int what = 0; what < due.length; what++) {
            c.due("rooms(" + what + ")", x.rooms(what), due[what]);
        }
        askPacked();
    }

    /** Some come in again, so that BEDS are scarce. */
    private void fill(int vaults) {
        for (int i = draw(4); i > 0; i--) {
            int d = draw(8);
            int v = draw(vaults);
            both("lodge", x.lodge(d, v), d, v);
        }
    }

    private void wish(int vaults) {
        int most = 1 + draw(4);
        for (int d = 0; d < x.count(2); d++) {
            for (int v = 0; v < vaults; v++) {
                int value = draw(most) * (1 + draw(2) * draw(2));
                both("wish", x.wish(d, v, value), d, v, value);
            }
        }
    }

    private void bar(int vaults) {
        StringBuilder law = new StringBuilder("bars if free = 9");
        for (int i = draw(9); i > 0; i--) {
            law.append(";bars if dead=").append(draw(8)).append(draw(4) == 0 ? "" : " and vault=" + draw(vaults));
        }
        byte[] text = Check.bytes(law.toString());
        for (int i = 0; i < text.length; i += 20) {
            model.call("feed", Check.numbers(text, i));
        }
        model.call("end", text.length);
        both("law", Check.law(x, law.toString()));
        both("force", x.force(0), 0);
    }

    private void askPacked() {
        both("packed", x.packed(0), 0);
        both("packed", x.packed(1), 1);
        int twos = x.changes(-1);
        both("changes", twos, -1);
        for (int i = 0; i <= twos; i++) {
            both("changes", x.changes(i), i);
        }
    }
}
