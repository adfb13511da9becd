import java.nio.charset.StandardCharsets;
import java.util.Arrays;

/** What the tests share: counting wrong answers, a small ground, feeding a TEXT or bytes to a TAPE. */
final class Check {
    private int wrong = 0;
    private int asked = 0;
    private String about = "";

    void about(String what) {
        about = what;
    }

    void due(String call, long got, long want) {
        asked++;
        if (got != want) {
            wrong++;
            System.out.println(about + ": " + call + " answered " + got + ", due is " + want);
        }
    }

    void fail(String what) {
        asked++;
        wrong++;
        System.out.println(about + ": " + what);
    }

    int wrong() {
        return wrong;
    }

    /** Ends the test: with exit code 1, if an answer was wrong or nothing was asked. */
    void finish(String name) {
        System.out.println(name + ": " + asked + " answers, " + wrong + " wrong");
        if (wrong > 0 || asked == 0) {
            System.exit(1);
        }
    }

    /** Two VAULTS (2 BEDS, 1), two FAMILIES (30, 7), three DEAD (TERM 3, 1 in VAULT 0, 12 in 1). */
    static VaultLeases small() {
        VaultLeases x = new VaultLeases();
        x.vault(2);
        x.vault(1);
        x.family(30);
        x.family(7);
        x.dead(0, 0, 3);
        x.dead(1, 0, 1);
        x.dead(0, 1, 12);
        return x;
    }

    /** The same words so many times, with something between them. */
    static String many(String one, String between, int n) {
        return one + (between + one).repeat(n - 1);
    }

    static byte[] bytes(String text) {
        return text.getBytes(StandardCharsets.ISO_8859_1);
    }

    /** Five numbers a feed; the last feed may have more bytes than there are, which end() cuts. */
    static int[] numbers(byte[] bytes, int from) {
        byte[] twenty = Arrays.copyOf(Arrays.copyOfRange(bytes, from, Math.min(bytes.length, from + 20)), 20);
        int[] five = new int[5];
        for (int i = 0; i < 20; i++) {
            five[i / 4] = five[i / 4] << 8 | twenty[i] & 255;
        }
        return five;
    }

    static void feed(VaultLeases x, byte[] bytes) {
        x.end(0);
        for (int i = 0; i < bytes.length; i += 20) {
            int[] n = numbers(bytes, i);
            x.feed(n[0], n[1], n[2], n[3], n[4]);
        }
        x.end(bytes.length);
    }

    static int law(VaultLeases x, String text) {
        feed(x, bytes(text));
        return x.law();
    }

    static int orders(VaultLeases x, String text) {
        feed(x, bytes(text));
        return x.orders();
    }

    static int row(VaultLeases x, int... bytes) {
        byte[] row = new byte[bytes.length];
        for (int i = 0; i < row.length; i++) {
            row[i] = (byte) bytes[i];
        }
        feed(x, row);
        return x.row();
    }
}
