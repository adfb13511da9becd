import java.io.IOException;

/** What the tests of sentences share: a sentence is quoted, looked up in DOC.md, and then tested. */
final class Edges {
    static final int NONE = VaultLeases.NONE;
    static final int NOTHING = VaultLeases.NOTHING;
    static final int LEAST = Integer.MIN_VALUE;
    static final int MOST = Integer.MAX_VALUE;

    private final Check c = new Check();
    private final Doc doc = new Doc();
    private String section = "";
    private String latest = "";
    private int asked = 1;

    Edges() throws IOException {
        c.about("DOC.md");
        c.due("promises", doc.promises(), 43);
    }

    void terms() {
        section = "Terms";
    }

    void promise(int number) {
        section = "Promise " + number;
    }

    /** What is asked from here on is about these words. */
    void says(String words) {
        seeThatItWasTested();
        latest = section + ", \"" + words + "\"";
        c.about(latest);
        if (!doc.says(section, words)) {
            c.fail("this is not what the document says");
        }
    }

    private void seeThatItWasTested() {
        c.about(latest);
        if (asked == 0) {
            c.fail("nothing was asked");
        }
        asked = 0;
    }

    void due(String call, long got, long want) {
        asked++;
        c.due(call, got, want);
    }

    void law(VaultLeases x, String text, long want) {
        due("law \"" + text + "\"", Check.law(x, text), want);
    }

    void orders(VaultLeases x, String text, long want) {
        due("orders \"" + text + "\"", Check.orders(x, text), want);
    }

    /** The TEXT is REFUSED by -6, with its FAULT at that place. */
    void faultOfLaw(String text, int place) {
        VaultLeases x = Check.small();
        law(x, text, -6);
        due("fault of \"" + text + "\"", x.fault(), place);
    }

    void faultOfOrders(String text, int place) {
        VaultLeases x = Check.small();
        orders(x, text, -6);
        due("fault of \"" + text + "\"", x.fault(), place);
    }

    void right(String law) {
        VaultLeases x = Check.small();
        law(x, law, 0);
        due("fault of \"" + law + "\"", x.fault(), NONE);
    }

    /** A renewal for DEAD 0 (FAMILY 0, VAULT 0, TERM 3) is PRICED so by this SUM, with "if" or without; 50, if it does not HOLD. */
    void priced(String sum, int want) {
        VaultLeases x = under("prices 50;prices " + sum);
        due("prices " + sum, x.of(0, 4), want);
    }

    /** Whether this TEST is so for DEAD 0. */
    void so(String test, boolean want) {
        priced("60 if " + test, want ? 60 : 50);
    }

    /** Check.small() with this LAW in FORCE. */
    VaultLeases under(String law) {
        VaultLeases x = Check.small();
        law(x, law, 0);
        x.force(0);
        return x;
    }

    void finish(String name) {
        seeThatItWasTested();
        c.about("DOC.md");
        for (String words : doc.unquoted()) {
            c.fail("no test is about this: " + words);
        }
        c.finish(name);
    }
}
