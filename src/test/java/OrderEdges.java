/** Sentences about ORDERS: Terms II, its third part; promises 16, 18. */
final class OrderEdges {
    private static final int NONE = Edges.NONE;

    private final Edges e;

    OrderEdges(Edges e) {
        this.e = e;
    }

    void run() {
        grammar();
        times();
        words();
        parts();
        runs();
        whatWordsTell();
        whatCannotBe();
        allAsItWas();
        promise16();
        promise18();
    }

    /** So many are run of these ORDERS on Check.small(). */
    private VaultLeases done(String text, int want) {
        VaultLeases x = Check.small();
        e.orders(x, text, want);
        return x;
    }

    /** Whether this TEST is so for ORDERS on Check.small(). */
    private void so(String test, boolean want) {
        done("pass if " + test, want ? 1 : 0);
    }

    private void grammar() {
        e.terms();
        e.says("ORDERS: CLAUSE: (\"renew\" SUM | \"lodge\" SUM \"in\" SUM | \"knock\" SUM | \"pass\") [\"times\" TIMES] [\"if\" TEST].");
        for (String head : new String[] {"renew 0", "knock 0", "pass"}) {
            done(head, 1);
            done(head + " times 1", 1);
            done(head + " if 1=1", 1);
            done(head + " times 1 if 1=1", 1);
            e.faultOfOrders(head + " if 1=1 times 1", head.length() + 8);
            e.faultOfOrders(head + " times 1 times 1", head.length() + 9);
            e.faultOfOrders(head + " if", head.length() + 3);
            e.faultOfOrders(head + " in 0", head.length() + 1);
        }
        done("pass;lodge 0 in 0 times 1 if 1=2", 1);
        e.faultOfOrders("renew", 5);
        e.faultOfOrders("knock if 1=1", 6);
        e.faultOfOrders("lodge", 5);
        e.faultOfOrders("lodge 0", 7);
        e.faultOfOrders("lodge 0 if 1=1", 8);
        e.faultOfOrders("lodge 0 in", 10);
        e.faultOfOrders("lodge in 0", 6);
        e.faultOfOrders("lodge 0 in 0 in 0", 13);
        e.faultOfOrders("pass 0", 5);
        for (String head : new String[] {"prices 1", "lasts 1", "earns 1", "bars", "in", "times 2"}) {
            e.faultOfOrders(head, 0);
        }
        e.says("(one of the DEAD; one of them, a VAULT; one; a YEAR.)");
        VaultLeases x = done("renew 2;pass;lodge 2 in 0;knock 0", 4);
        e.due("RENEWED, a YEAR less", x.of(2, 2), 21);
        e.due("LODGED", x.of(2, 1), 0);
        e.due("it KNOCKED", x.of(0, 3), 1);
        e.due("the other did not", x.of(2, 3), 0);
        e.due("a YEAR", x.count(14), 1);
    }

    private void times() {
        e.says("TIMES: a NUMBER 1 .. 20.");
        done("pass times 1", 1);
        done("pass times 20", 20);
        done("pass times 020", 20);
        e.faultOfOrders("pass times 0", 11);
        e.faultOfOrders("pass times 21", 11);
        e.faultOfOrders("pass times 1001", 11);
        e.faultOfOrders("pass times", 10);
        e.faultOfOrders("pass times year", 11);
        e.faultOfOrders("pass times [1]", 11);
        e.faultOfOrders("pass times 1+1", 12);
        e.faultOfOrders("pass times -1", 11);
        e.faultOfOrders("pass times if 1=1", 11);
    }

    private void words() {
        e.says("Words: \"year\" | \"done\" | \"latest\" | \"inside\" | \"term\" D | \"means\" F (D: a NUMBER 0 .. 7, F: 0 .. 3).");
        for (String word : new String[] {"year", "done", "latest", "inside", "term 0", "term 7", "term7", "term 007", "means 0", "means 3"}) {
            done("pass if " + word + " = " + word, 1);
        }
        e.faultOfOrders("pass if term 8 = 1", 13);
        e.faultOfOrders("pass if term 1000 = 1", 13);
        e.faultOfOrders("pass if means 4 = 1", 14);
        e.faultOfOrders("pass if means 7 = 1", 14);
        e.faultOfOrders("pass if term = 1", 13);
        e.faultOfOrders("pass if means = 1", 14);
        e.faultOfOrders("pass if term", 12);
        e.faultOfOrders("pass if means", 13);
        e.faultOfOrders("pass if term year = 1", 13);
        e.faultOfOrders("pass if term [0] = 1", 13);
        e.faultOfOrders("pass if year 0 = 1", 13);
        e.faultOfOrders("pass if inside 0 = 1", 15);
        for (String word : new String[] {"year", "done", "latest", "inside", "term 0", "means 0"}) {
            e.faultOfOrders("knock q" + word.substring(1), 6);
            e.faultOfOrders("knock q" + word, 6);
        }
        for (String word : new String[] {"dead", "family", "vault", "beds", "free", "mood", "times", "in", "pass"}) {
            e.faultOfOrders("knock " + word, 6);
        }
    }

    private void parts() {
        e.says("D, F, TIMES aside, NUMBERS and words count as PARTS.");
        String fifty = "pass times 2 if " + Check.many("term7", "+", 25) + "+" + Check.many("means3", "+", 24) + "=1";
        done(fifty, 0);
        e.faultOfOrders(fifty + "+1", fifty.length() + 1);
        e.faultOfOrders(fifty + "+year", fifty.length() + 1);
        e.faultOfOrders(fifty + "+term 7", fifty.length() + 1);
        e.faultOfOrders(fifty + "+means 3", fifty.length() + 1);
        done(fifty + ";pass times 20", 20);
        done("knock " + Check.many("0", "+", 50) + ";pass times 20;" + Check.many("pass times 1", ";", 9), 30);
        e.faultOfOrders("pass times 20;pass;knock " + Check.many("0", "+", 51), 125);
        done("lodge " + Check.many("1", "*", 25) + " in " + Check.many("1", "*", 25) + " times 3", -3);
        e.faultOfOrders("lodge " + Check.many("1", "*", 25) + " in " + Check.many("1", "*", 26), 109);
    }

    private void runs() {
        e.says("Run CLAUSE by CLAUSE, each as often as TIMES tell (once without)");
        VaultLeases x = done("pass times 3;pass;pass times 2;pass times 1", 7);
        e.due("seven YEARS", x.count(14), 7);
        done("pass;lodge 2 in 0;lodge 1 in 1", 3);
        done("lodge 1 in 1;pass;lodge 2 in 0", -3);
        x = done("renew 0 times 2;renew 2 times 3", 5);
        e.due("twice", x.of(0, 2), 23);
        e.due("three times", x.of(2, 2), 42);
        e.says("; each time its \"if\" is asked (not run, if it is not so or BROKEN), then its SUMS from the left.");
        done("pass times 20 if year < 3", 3);
        done("pass times 20 if done = 0 or done = 1", 2);
        done("pass times 5 if 6/[2-year] > 0", 2);
        done("pass times 20 if not 1/0 = 1", 0);
        done("pass if 1000*1000*1000+1 > 0;pass if 1=1", 1);
        done("knock 9 if 1=2;knock 1/0 if 1=2;lodge 1/0 in 9 if 1/0=1", 0);
        x = done("knock done times 3", 3);
        e.due("each KNOCKED", x.of(0, 3) + x.of(1, 3) + x.of(2, 3), 3);
        x = done("pass;lodge 1 + done in done - 1", 2);
        e.due("both SUMS are asked ahead of it", x.of(2, 1), 0);
    }

    private void whatWordsTell() {
        e.says("done: how many were run in this TEXT");
        so("done = 0", true);
        done("pass times 3;pass if 1=2;pass if done = 3;pass if done = 4", 5);
        VaultLeases x = done("pass;pass", 2);
        e.orders(x, "pass if done = 0;pass if done = 0", 1);
        e.orders(x, "pass;pass;knock 7", -3);
        e.orders(x, "pass if done = 0", 1);
        e.says(", latest: what the latest renew in it told (-1: none)");
        so("latest = 0-1", true);
        x = e.under("prices 7 + dead");
        x.renew(0);
        e.orders(x, "knock 0;pass if latest = 0-1;renew 2;pass if latest = 9;knock 2;renew 0;pass if latest = 7;renew 1 if 1=2;pass if latest = 7", 8);
        e.orders(x, "pass if latest = 0-1", 1);
        e.says(", inside: how many are not OUT");
        so("inside = 3", true);
        x = done("pass if inside = 3;pass times 2 if inside = 2;pass times 9 if inside = 1;pass if inside = 0", 13);
        e.orders(x, "lodge 0 in 0;lodge 1 in 0;pass if inside = 2;pass if inside = 0", 4);
        e.orders(new VaultLeases(), "pass if inside = 0", 1);
        e.says(", term, means: -1 without such a one.");
        so("term 0 = 3 and term 1 = 1 and term 2 = 12", true);
        for (int d = 3; d < 8; d++) {
            so("term " + d + " = 0-1", true);
        }
        so("means 0 = 30 and means 1 = 7", true);
        so("means 2 = 0-1 and means 3 = 0-1", true);
        x = done("pass;pass if term 1 = 0 and means 1 = 17", 2);
        e.orders(new VaultLeases(), "pass if term 0 = 0-1 and means 0 = 0-1", 1);
    }

    private void whatCannotBe() {
        e.says("One that can't be (a BROKEN SUM, as renew(), lodge(), knock(), pass() are REFUSED) ends it");
        String[] texts = {"renew 1/0", "knock 1%0", "lodge 1/0 in 0", "lodge 0 in 1/0", "knock 1000*1000*1000+1", "renew 0-1000*1000*1000-1",
            "renew 3", "renew 0-1", "renew 1000", "lodge 3 in 1", "lodge 0 in 2", "lodge 0 in 0-1", "lodge 0 in 0", "lodge 0 in 1",
            "knock 3", "knock 0-1", "knock 2 times 2", "renew 1 times 2", "pass;renew 1", "pass;knock 1"};
        for (String text : texts) {
            VaultLeases x = done(text, -3);
            e.due("status", x.status(), -3);
            e.due("no YEAR", x.count(14), 0);
        }
        VaultLeases y = Check.small();
        y.terms(0, 998);
        e.orders(y, "pass times 2", -3);
        e.due("as it was", y.count(14), 998);
        e.orders(y, "pass", 1);
        e.orders(y, "pass", -3);
        VaultLeases z = e.under("bars if vault = 0");
        z.pass();
        e.orders(z, "lodge 2 in 0", -3);
        VaultLeases w = Check.small();
        e.orders(w, "pass;knock 9;pass times 20;pass 1", -6);
        e.orders(w, "pass;knock 9;pass times 20;knock 9", -3);
        e.due("the first that could not be", w.stopped(), 1);
    }

    private void allAsItWas() {
        e.says(": all is as it was ahead of it.");
        VaultLeases x = Check.small();
        x.vault(3);
        x.renew(0);
        x.knock(2);
        x.pass();
        e.orders(x, "renew 0;lodge 0 in 2;knock 0;pass times 20;lodge 1 in 0;knock 1;knock 2", -3);
        e.due("YEAR", x.count(14), 1);
        e.due("MEANS", x.has(0, 0), 35);
        e.due("MEANS", x.has(1, 0), 17);
        e.due("VAULT", x.of(0, 1), 0);
        e.due("TERM", x.of(0, 2), 12);
        e.due("not KNOCKED", x.of(0, 3), 0);
        e.due("OUT", x.of(1, 1), NONE);
        e.due("not KNOCKED", x.of(1, 3), 0);
        e.due("who lies there", x.at(0, 2), 1);
        e.due("nobody lies there", x.at(2, 2), 0);
        e.due("can be undone", x.count(6), 3);
        e.due("pass", x.undo(), 3);
        e.due("YEAR", x.count(14), 0);
        e.due("knock", x.undo(), 2);
        e.due("renew", x.undo(), 0);
        e.due("TERM", x.of(0, 2), 3);
        e.due("no more", x.undo(), -3);
    }

    private void promise16() {
        e.promise(16);
        e.says("ORDERS, the TAPE is empty then: how many were run.");
        VaultLeases x = Check.small();
        e.orders(x, "pass if 1=2", 0);
        e.due("status", x.status(), 0);
        e.due("the TAPE is empty", x.count(7), 0);
        e.due("nothing can be undone", x.count(6), 0);
        e.orders(x, "knock 0;pass times 2", 3);
        e.due("the TAPE is empty", x.count(7), 0);
        e.orders(x, Check.many("pass times 20", ";", 12), 240);
        e.says("-3 one can't be");
        e.orders(x, "pass;knock 9", -3);
        e.due("the TAPE is empty", x.count(7), 0);
        e.due("REFUSED once, by -3", x.count(10), 1);
        e.due("not by -2", x.count(9), 0);
        e.says("; -6 (as for law()).");
        e.orders(x, "pass pass", -6);
        e.due("the TAPE is empty", x.count(7), 0);
        e.due("nothing was run", x.count(14), 242);
        e.orders(x, "pass;?", -6);
        e.due("nothing was run", x.count(14), 242);
        e.orders(x, "   ", -6);
        e.due("fault", x.fault(), 3);
        e.due("an empty one", x.orders(), -6);
        e.due("fault", x.fault(), 0);
    }

    private void promise18() {
        e.promise(18);
        e.says("Which CLAUSE of the latest orders() could not be.");
        VaultLeases x = Check.small();
        e.orders(x, "knock 9", -3);
        e.due("the first", x.stopped(), 0);
        e.orders(x, Check.many("pass", ";", 11) + ";knock 9", -3);
        e.due("the twelfth", x.stopped(), 11);
        e.orders(x, "pass times 20;knock 9 if 1=2;knock 2 times 2;pass", -3);
        e.due("CLAUSES, not how often they are run", x.stopped(), 2);
        Check.law(x, "?");
        x.row();
        x.knock(9);
        x.pass();
        e.due("others leave it", x.stopped(), 2);
        x.image(0);
        e.orders(x, "pass;pass;pass;knock 9", -3);
        x.back(0);
        e.due("an IMAGE does not keep it", x.stopped(), 3);
        e.says("NONE.");
        e.due("ahead of any", new VaultLeases().stopped(), NONE);
        e.orders(x, "pass", 1);
        e.due("all could be", x.stopped(), NONE);
        e.orders(x, "knock 9", -3);
        e.orders(x, "?", -6);
        e.due("no CLAUSE was run", x.stopped(), NONE);
        e.orders(x, "knock 9", -3);
        e.orders(x, "pass if 1=2", 0);
        e.due("none was run", x.stopped(), NONE);
    }
}
