import java.util.Random;

/** FAULTS of many texts, right and spoilt, beside what Grammar finds. */
public final class FaultsTest {
    private static final Check c = new Check();

    public static void main(String[] args) {
        for (int seed = 0; seed < 6000 && c.wrong() < 20; seed++) {
            Random random = new Random(seed);
            boolean orders = random.nextBoolean();
            Texts texts = new Texts(random, orders);
            int clauses = 1 + random.nextInt(seed % 5 == 0 ? 14 : 3);
            int depth = random.nextInt(seed % 7 == 0 ? 10 : 3);
            try1(orders, random.nextInt(3) == 0 ? texts.right(clauses, depth) : texts.spoilt(clauses, depth));
        }
        deepOnes();
        misspelt();
        c.finish("FaultsTest");
    }

    private static void deepOnes() {
        for (int seed = 0; seed < 300; seed++) {
            Random random = new Random(seed);
            StringBuilder text = new StringBuilder("bars if ");
            int tests = random.nextInt(9);
            int sums = random.nextInt(10 - tests);
            text.append("(".repeat(tests)).append("[".repeat(sums)).append("1").append("]".repeat(sums));
            text.append(random.nextInt(4) == 0 ? "" : "=").append("2").append(")".repeat(tests));
            try1(false, Check.bytes(text.toString()));
            int parts = 40 + random.nextInt(14);
            try1(random.nextBoolean(), Check.bytes("lasts 1" + "*1".repeat(parts)));
            try1(true, Check.bytes("knock 1" + "-done".repeat(parts)));
        }
        for (int sign = 0; sign < 256; sign++) {
            try1(false, Check.bytes("prices 1" + (char) sign + "2"));
            try1(true, Check.bytes("pass" + (char) sign + "times 2"));
        }
    }

    /** Each word with a letter changed, dropped, doubled, or one more behind it. */
    private static void misspelt() {
        String[] laws = {"prices 1", "lasts 1", "earns 1", "bars", "bars if 1=1 or 1=1 and not 1=1",
            "lasts dead+family+vault+term+means+beds+free+year+mood"};
        String[] orders = {"renew 1", "lodge 1 in 1", "knock 1", "pass times 2 if 1=1 or 1=1 and not 1=1",
            "renew year+done+latest+inside+term 1+means 1"};
        for (String text : laws) {
            misspelt(false, text);
        }
        for (String text : orders) {
            misspelt(true, text);
        }
    }

    private static void misspelt(boolean orders, String text) {
        for (int i = 0; i < text.length(); i++) {
            String ahead = text.substring(0, i);
            String behind = text.substring(i + 1);
            char sign = text.charAt(i);
            try1(orders, Check.bytes(ahead + behind));
            try1(orders, Check.bytes(ahead + sign + sign + behind));
            try1(orders, Check.bytes(ahead + "q" + behind));
            try1(orders, Check.bytes(ahead + Character.toUpperCase(sign) + behind));
            try1(orders, Check.bytes(ahead + " " + sign + behind));
        }
    }

    private static void try1(boolean orders, byte[] text) {
        VaultLeases x = new VaultLeases();
        x.terms(0, 999);
        Check.feed(x, text);
        int told = orders ? x.orders() : x.law();
        int due = new Grammar(orders).fault(text);
        c.about(new String(text, java.nio.charset.StandardCharsets.ISO_8859_1));
        c.due("fault", x.fault(), due);
        c.due("refused by -6", told == -6 ? 1 : 0, due >= 0 ? 1 : 0);
    }
}
