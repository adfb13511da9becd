/** Sentences about CENTURIES, IMAGES, counts and status: Terms IV, promises 38 to 43. */
final class PaperEdges {
    private static final int NONE = Edges.NONE;
    private static final int NOTHING = Edges.NOTHING;

    // What the first three DRAWS of these SEEDS tell of three DEAD, two VAULTS and three acts.
    private static final int RENEWS_2 = 13;
    private static final int RENEWS_1 = 2;
    private static final int LODGES_0_IN_1 = 0;
    private static final int LODGES_1_IN_1 = 8;
    private static final int LODGES_2_IN_1 = 25;
    private static final int KNOCKS_0 = 12;
    private static final int KNOCKS_1 = 23;

    private final Edges e;

    PaperEdges(Edges e) {
        this.e = e;
    }

    void run() {
        bounds();
        draws();
        eachTime();
        promise38();
        promise39();
        whatImagesKeepNot();
        whatImagesKeep();
        promise40();
        promise41();
        promise42();
        refusalsCounted();
        promise43();
    }

    private void drawn(VaultLeases x, int... due) {
        for (int d = 0; d < 3; d++) {
            e.due("VAULT of DEAD " + d, x.drawn(d, 0), due[2 * d]);
            e.due("TERM of DEAD " + d, x.drawn(d, 1), due[2 * d + 1]);
        }
        e.due("MEANS of FAMILY 0", x.drawn(0, 2), due[6]);
        e.due("MEANS of FAMILY 1", x.drawn(1, 2), due[7]);
    }

    private void bounds() {
        e.terms();
        e.says("IV. CENTURIES with a SEED, n 1 .. 60, on paper");
        VaultLeases x = Check.small();
        for (int n : new int[] {0, 61, -1, Edges.LEAST, Edges.MOST}) {
            e.due("n " + n, x.centuries(0, n), -1);
        }
        e.due("n 1", x.centuries(LODGES_0_IN_1, 1), 1);
        e.due("a YEAR", x.drawn(1, 2), 17);
        e.due("n 60", x.centuries(LODGES_0_IN_1, 60) > 0 ? 1 : 0, 1);
        e.due("MEANS of 60 YEARS", x.drawn(1, 2) > 500 ? 1 : 0, 1);
        e.due("the YEAR is as it was", x.count(14), 0);
        e.due("MEANS are as they were", x.has(0, 0), 30);
        e.due("TERM is as it was", x.of(0, 2), 3);
        e.due("VAULTS are as they were", x.at(0, 2), 3);
        e.due("nobody KNOCKED", x.of(0, 3) + x.of(1, 3) + x.of(2, 3), 0);
        e.due("nothing can be undone", x.count(6), 0);
        e.says(": s is the SEED (0 .. 1,000,000)");
        for (int seed : new int[] {-1, 1000001, Edges.LEAST, Edges.MOST}) {
            e.due("SEED " + seed, x.centuries(seed, 1), -1);
        }
        e.due("SEED 0", x.centuries(0, 1), 1);
        // 9036 (0 of 3), 979026 (0 of 2), 874786 (1 of 3): DEAD 0 is to be LODGED where it lies.
        e.due("SEED 1,000,000", x.centuries(1000000, 1), 1);
        drawn(x, 0, 2, NONE, 0, 1, 11, 40, 17);
    }

    private void draws() {
        e.says("; a DRAW of m: s becomes (s times 1103 and 12345) modulo 1,000,003, it is s modulo m.");
        int[] seeds = {0, 1, 2, 3, 4, 8, 9, 10, 11, 12, 13, 20, 21, 22, 23, 25, 27, 35, 905, 906, 500000, 999999, 1000000};
        for (int seed : seeds) {
            for (int n : new int[] {1, 2, 3, 10, 60}) {
                follow(Check.small(), Check.small(), seed, n);
                follow(e.under("prices 3;lasts 2;earns 1"), e.under("prices 3;lasts 2;earns 1"), seed, n);
            }
        }
    }

    /** CENTURIES beside a twin to whom the same is done by calls. */
    private void follow(VaultLeases x, VaultLeases twin, int seed, int n) {
        long s = seed;
        int out = 0;
        for (int i = 0; i < n; i++) {
            int[] drawn = new int[3];
            for (int j = 0; j < 3; j++) {
                s = (s * 1103L + 12345L) % 1000003L;
                drawn[j] = (int) (s % (j == 1 ? 2 : 3));
            }
            if (drawn[2] == 0) {
                twin.renew(drawn[0]);
            } else if (drawn[2] == 1) {
                twin.lodge(drawn[0], drawn[1]);
            } else {
                twin.knock(drawn[0]);
            }
            int in = twin.count(3);
            twin.pass();
            out += in - twin.count(3);
        }
        e.due("centuries(" + seed + ", " + n + ")", x.centuries(seed, n), out);
        drawn(x, twin.of(0, 1), twin.of(0, 2), twin.of(1, 1), twin.of(1, 2), twin.of(2, 1), twin.of(2, 2), twin.has(0, 0), twin.has(1, 0));
    }

    private void eachTime() {
        e.says("Each time (at YEAR 999 it ends) DRAWS of DEAD, of VAULTS, of 3");
        VaultLeases x = Check.small();
        x.terms(0, 999);
        e.due("at 999", x.centuries(RENEWS_2, 60), 0);
        drawn(x, 0, 3, 0, 1, 1, 12, 30, 7);
        x.terms(0, 998);
        e.due("at 998", x.centuries(RENEWS_2, 60), 1);
        drawn(x, 0, 2, NONE, 0, 1, 21, 35, 17);
        VaultLeases one = new VaultLeases();
        one.vault(1);
        one.family(0);
        one.dead(0, 0, 1);
        // 13448 and 845447 (0 of 1), 537590 (2 of 3): it KNOCKS.
        e.due("of one DEAD, of one VAULT", one.centuries(1, 1), 0);
        e.due("IN", one.drawn(0, 0), 0);
        e.due("TERM", one.drawn(0, 1), 1);
        e.says(": at 0 it is RENEWED for that one, at 1 that one is LODGED there, at 2 it KNOCKS, each if it can be; then the YEAR passes.");
        VaultLeases y = Check.small();
        e.due("RENEWED for DEAD 2", y.centuries(RENEWS_2, 1), 1);
        drawn(y, 0, 2, NONE, 0, 1, 21, 35, 17);
        e.due("RENEWED for DEAD 1", y.centuries(RENEWS_1, 1), 0);
        drawn(y, 0, 2, 0, 10, 1, 11, 40, 12);
        e.due("VAULT 1 is full", y.centuries(LODGES_0_IN_1, 1), 1);
        drawn(y, 0, 2, NONE, 0, 1, 11, 40, 17);
        e.due("DEAD 1 KNOCKS", y.centuries(KNOCKS_1, 1), 0);
        drawn(y, 0, 2, 0, 1, 1, 11, 40, 17);
        e.due("DEAD 0 KNOCKS", y.centuries(KNOCKS_0, 1), 1);
        drawn(y, 0, 3, NONE, 0, 1, 11, 40, 17);
        VaultLeases z = Check.small();
        z.knock(0);
        e.due("DEAD 0 has KNOCKED", z.centuries(KNOCKS_0, 1), 1);
        drawn(z, 0, 3, NONE, 0, 1, 11, 40, 17);
        roomIn1();
        byLaw();
    }

    private void roomIn1() {
        VaultLeases x = new VaultLeases();
        x.vault(2);
        x.vault(1);
        x.family(4);
        x.family(7);
        x.dead(0, 0, 3);
        x.dead(1, 1, 1);
        x.dead(0, 0, 1);
        x.pass();
        e.due("DEAD 0, where there is room", x.centuries(LODGES_0_IN_1, 1), 0);
        drawn(x, 1, 1, NONE, 0, NONE, 0, 24, 27);
        e.due("DEAD 1, which is OUT, comes IN and goes OUT", x.centuries(LODGES_1_IN_1, 1), 1);
        drawn(x, 0, 1, NONE, 0, NONE, 0, 24, 27);
        e.due("RENEWED for nobody who is OUT", x.centuries(RENEWS_1, 1), 0);
        drawn(x, 0, 1, NONE, 0, NONE, 0, 24, 27);
        Check.law(x, "bars;earns 0");
        x.force(0);
        e.due("BARRED", x.centuries(LODGES_2_IN_1, 1), 0);
        drawn(x, 0, 1, NONE, 0, NONE, 0, 14, 17);
    }

    private void byLaw() {
        VaultLeases x = e.under("prices 7 + dead;lasts 4;earns year + 1");
        e.due("the FAMILY has it not", x.centuries(RENEWS_1, 1), 1);
        drawn(x, 0, 2, NONE, 0, 1, 11, 31, 8);
        e.due("PRICED, LASTS by the LAW", x.centuries(RENEWS_2, 1), 1);
        drawn(x, 0, 2, NONE, 0, 1, 15, 22, 8);
        x.terms(0, 990);
        x.centuries(KNOCKS_1, 60);
        e.due("nine YEARS", x.drawn(1, 2) >= 7 + 9 * 90 ? 1 : 0, 1);
    }

    private void promise38() {
        e.promise(38);
        e.says("CENTURIES, kept as the latest: how often somebody came to be OUT.");
        VaultLeases x = Check.small();
        e.due("one", x.centuries(RENEWS_2, 1), 1);
        e.due("kept", x.drawn(2, 1), 21);
        e.due("nobody", x.centuries(RENEWS_1, 1), 0);
        e.due("the latest", x.drawn(2, 1), 11);
        // Three who are soon OUT, and are never RENEWED for or LODGED again.
        VaultLeases y = e.under("bars;prices 99;earns 0");
        int out = y.centuries(5, 60);
        e.due("each of them once", out, 3);
        e.due("OUT", y.drawn(0, 0) + y.drawn(1, 0) + y.drawn(2, 0), 3 * NONE);
        // One who is LODGED again and again comes to be OUT each time.
        VaultLeases z = new VaultLeases();
        z.vault(1);
        z.vault(1);
        z.family(0);
        z.dead(0, 0, 1);
        Check.law(z, "prices 99;earns 0");
        z.force(0);
        z.pass();
        e.due("more than once", z.centuries(5, 60) > 1 ? 1 : 0, 1);
        e.due("OUT ahead is not counted", z.centuries(RENEWS_1, 1), 0);
        e.says("-1; -3 there are no DEAD.");
        VaultLeases w = new VaultLeases();
        w.vault(1);
        w.family(1);
        e.due("no DEAD", w.centuries(0, 1), -3);
        e.due("SEED and no DEAD", w.centuries(1000001, 1), -1);
        e.due("n and no DEAD", w.centuries(0, 61), -1);
        e.due("nothing is kept", w.drawn(0, 2), NOTHING);
        e.due("REFUSED", x.centuries(0, 0), -1);
        e.due("the latest that was not", x.drawn(1, 1), 10);
    }

    private void promise39() {
        e.promise(39);
        e.says("Behind the latest CENTURIES the VAULT (what 0), TERM (1) of DEAD k, MEANS (2) of FAMILY k.");
        VaultLeases x = Check.small();
        x.centuries(RENEWS_2, 1);
        drawn(x, 0, 2, NONE, 0, 1, 21, 35, 17);
        x.pass();
        x.pass();
        x.terms(0, 500);
        e.due("as they were", x.drawn(2, 1), 21);
        e.says("NOTHING.");
        for (int k : new int[] {3, 8, -1, Edges.LEAST, Edges.MOST}) {
            e.due("VAULT of " + k, x.drawn(k, 0), NOTHING);
            e.due("TERM of " + k, x.drawn(k, 1), NOTHING);
            e.due("MEANS of " + k, x.drawn(k, 2), NOTHING);
        }
        e.due("MEANS of FAMILY 2", x.drawn(2, 2), NOTHING);
        for (int what : new int[] {3, -1, Edges.LEAST, Edges.MOST}) {
            e.due("what " + what, x.drawn(0, what), NOTHING);
        }
        VaultLeases y = Check.small();
        e.due("ahead of any", y.drawn(0, 0), NOTHING);
        e.due("ahead of any", y.drawn(0, 1), NOTHING);
        e.due("ahead of any", y.drawn(0, 2), NOTHING);
        y.centuries(0, 1);
        y.family(5);
        y.vault(1);
        y.dead(2, 2, 5);
        e.due("who came later", y.drawn(3, 0), NOTHING);
        e.due("which came later", y.drawn(2, 2), NOTHING);
    }

    private void whatImagesKeepNot() {
        e.terms();
        e.says("IMAGES 0, 1 keep all but the TAPE, FAULT, DRAUGHTS, where ORDERS stopped, what can be undone (nothing, behind back()), the latest CENTURIES");
        VaultLeases x = Check.small();
        x.image(0);
        x.image(1);
        for (int k = 0; k < 2; k++) {
            x.pass();
            x.centuries(RENEWS_2, 1);
            int term = x.drawn(2, 1);
            Check.row(x, 9, 9, 9, 9);
            e.law(x, "bars bars", -6);
            int fault = x.fault();
            e.orders(x, "pass;knock 9", -3);
            e.law(x, "bars bars", -6);
            x.pass();
            x.feed(1, 2, 3, 4, 5);
            x.end(13 + k);
            e.due("one can be undone", x.count(6), 1);
            e.due("back", x.back(k), 0);
            e.due("the TAPE", x.count(7), 13 + k);
            e.due("FAULT", x.fault(), fault);
            e.due("DRAUGHTS", x.draughts(), 2);
            e.due("where ORDERS stopped", x.stopped(), 1);
            e.due("nothing can be undone", x.count(6), 0);
            e.due("undo", x.undo(), -3);
            e.due("the latest CENTURIES", x.drawn(2, 1), term);
            e.due("they are those behind it", term, 20);
        }
        VaultLeases y = Check.small();
        y.pass();
        y.image(0);
        e.due("image() leaves what can be undone", y.count(6), 1);
        e.due("undo", y.undo(), 3);
        y.back(0);
        e.due("nothing, though there was ahead of image()", y.undo(), -3);
    }

    /** Everything that an IMAGE keeps, as one row. */
    private static String all(VaultLeases x) {
        StringBuilder all = new StringBuilder();
        for (int what : new int[] {0, 1, 2, 3, 4, 5, 13, 14, 15, 16}) {
            all.append(x.count(what)).append(' ');
        }
        for (int i = 0; i < 8; i++) {
            for (int what = 0; what < 6; what++) {
                all.append(x.at(i, what)).append(' ').append(x.has(i, what)).append(' ').append(x.of(i, what)).append(' ');
                all.append(x.asks(i, what, 0)).append(' ').append(x.asks(i, what, 1)).append(' ').append(x.compare(what)).append(' ');
            }
        }
        return all.append(x.stranger()).append(' ').append(x.few(3, 30)).toString();
    }

    private static void settle(VaultLeases x) {
        Check.law(x, "prices 8 + dead;lasts 3;earns 4;bars if vault = 1");
        Check.law(x, "prices 20");
        x.force(0);
        x.terms(0, 30);
        x.terms(1, 4);
        x.terms(2, 5);
        x.wish(0, 1, 6);
        x.wish(2, 0, 7);
        x.seen(2, 0);
        x.seen(5, 1);
        x.knock(0);
        x.pass();
    }

    private static void upset(VaultLeases x) {
        x.forget();
        x.seen(0, 1);
        x.seen(90, 0);
        x.seen(0, 0);
        x.terms(1, 9);
        x.terms(2, 1);
        x.wish(0, 1, 1);
        x.wish(2, 0, 2);
        x.wish(1, 0, 3);
        x.renew(2);
        x.knock(2);
        x.pass();
        x.lodge(1, 0);
        x.vault(3);
        x.family(60);
        x.dead(2, 2, 50);
        x.lodge(0, 2);
        Check.law(x, "prices 9;earns 1;bars");
        x.force(2);
        x.pass();
    }

    private void whatImagesKeep() {
        e.says("; BACK to one all that it keeps is as it was then (IMAGES stay).");
        VaultLeases x = Check.small();
        String empty = all(x);
        x.image(1);
        settle(x);
        String then = all(x);
        e.due("a stranger", x.stranger(), 1);
        x.image(0);
        upset(x);
        e.due("it is another now", all(x).equals(then) ? 1 : 0, 0);
        for (int i = 0; i < 2; i++) {
            x.back(0);
            e.due("as it was then", all(x).equals(then) ? 1 : 0, 1);
            e.due("the KNOCK that was", x.knock(0), -3);
            e.due("the KNOCK that was not", x.knock(2), 12);
            x.back(1);
            e.due("as it was at first", all(x).equals(empty) ? 1 : 0, 1);
            e.due("no LAW", x.force(0), -2);
            upset(x);
        }
        x.back(0);
        x.family(1);
        Check.law(x, "prices 3");
        x.force(2);
        e.due("another LAW of that number", x.of(0, 4), 3);
        x.back(0);
        e.due("as it was then", all(x).equals(then) ? 1 : 0, 1);
        seenAsItWas();
        VaultLeases y = new VaultLeases();
        y.image(0);
        y.vault(1);
        y.family(1);
        y.dead(0, 0, 1);
        y.back(0);
        e.due("a ground without vaults", all(y).equals(all(new VaultLeases())) ? 1 : 0, 1);
        y.vault(1);
        y.family(1);
        y.dead(0, 0, 1);
        e.due("nobody KNOCKED", y.of(0, 3), 0);
    }

    private void seenAsItWas() {
        VaultLeases x = Check.small();
        x.seen(2, 0);
        x.seen(5, 1);
        e.due("one", x.stranger(), 1);
        x.image(0);
        x.forget();
        x.seen(5, 0);
        x.seen(6, 0);
        e.due("another", x.stranger(), 4);
        x.back(0);
        e.due("the one", x.stranger(), 1);
        e.due("how often", x.count(4), 2);
        VaultLeases y = Check.small();
        y.wish(1, 1, 5);
        y.knock(1);
        y.image(0);
        y.back(0);
        y.image(1);
        y.vault(3);
        y.family(9);
        Check.row(y, 2, 2, 9, 2, 2, 8);
        e.due("FAMILIES of those who came", y.has(2, 2), 24);
        y.back(1);
        Check.row(y, 0, 0, 9);
        e.due("they are gone", y.count(2), 3);
        y.vault(3);
        Check.row(y, 1, 2, 9);
        e.due("the next one has its own FAMILY", y.of(3, 0), 1);
        e.due("no KNOCK", y.of(3, 3), 0);
    }

    private void promise40() {
        e.promise(40);
        e.says("IMAGE k is kept: 0; -1.");
        VaultLeases x = Check.small();
        e.due("image(0)", x.image(0), 0);
        e.due("image(1)", x.image(1), 0);
        for (int k : new int[] {2, -1, Edges.LEAST, Edges.MOST}) {
            e.due("image(" + k + ")", x.image(k), -1);
        }
        x.pass();
        e.due("kept anew", x.image(1), 0);
        x.pass();
        x.back(1);
        e.due("as it was then", x.count(14), 1);
        x.back(0);
        e.due("the other one", x.count(14), 0);
    }

    private void promise41() {
        e.promise(41);
        e.says("BACK to IMAGE k: 0.");
        VaultLeases x = Check.small();
        x.image(1);
        x.pass();
        e.due("back", x.back(1), 0);
        e.due("YEAR", x.count(14), 0);
        e.says("-1; -2 it was not kept.");
        for (int k : new int[] {2, -1, Edges.LEAST, Edges.MOST}) {
            e.due("back(" + k + ")", x.back(k), -1);
        }
        x.pass();
        e.due("back(0)", x.back(0), -2);
        e.due("as it was", x.count(14), 1);
        e.due("it can be undone", x.count(6), 1);
        e.due("back(1) of another", new VaultLeases().back(1), -2);
        x.image(0);
        e.due("back(0)", x.back(0), 0);
    }

    private void promise42() {
        e.promise(42);
        e.says("0 VAULTS, 1 FAMILIES, 2 DEAD, 3 how many of these are IN, 4 SEEN, 5 LAWS, 6 how many can be undone, 7 bytes of the TAPE");
        VaultLeases x = new VaultLeases();
        for (int v = 0; v < 5; v++) {
            e.due("VAULTS", x.count(0), v);
            x.vault(3);
        }
        e.due("VAULTS", x.count(0), 5);
        for (int f = 0; f < 4; f++) {
            e.due("FAMILIES", x.count(1), f);
            x.family(1);
        }
        e.due("FAMILIES", x.count(1), 4);
        for (int d = 0; d < 8; d++) {
            e.due("DEAD", x.count(2), d);
            e.due("IN", x.count(3), d);
            x.dead(0, d / 3, 1 + d % 2);
        }
        e.due("DEAD", x.count(2), 8);
        e.due("IN", x.count(3), 8);
        x.pass();
        e.due("half of them", x.count(3), 4);
        x.pass();
        e.due("none", x.count(3), 0);
        e.due("DEAD", x.count(2), 8);
        e.due("can be undone", x.count(6), 2);
        for (int i = 0; i < 8; i++) {
            e.due("SEEN", x.count(4), i);
            x.seen(i, 1);
        }
        e.due("SEEN", x.count(4), 8);
        for (int i = 0; i < 6; i++) {
            e.due("LAWS", x.count(5), i);
            Check.law(x, "bars");
        }
        e.due("LAWS", x.count(5), 6);
        e.due("none", x.count(7), 0);
        x.feed(0, 0, 0, 0, 0);
        e.due("bytes", x.count(7), 20);
        x.end(19);
        e.due("bytes", x.count(7), 19);
        e.says(", 13 the LAW in FORCE, 14 .. 16 TERMS 0 .. 2.");
        e.due("none", x.count(13), NONE);
        x.force(0);
        e.due("the first", x.count(13), 0);
        x.force(5);
        e.due("the last", x.count(13), 5);
        e.due("YEAR", x.count(14), 2);
        x.terms(0, 999);
        x.terms(1, 10);
        x.terms(2, 9);
        e.due("YEAR", x.count(14), 999);
        e.due("DIES", x.count(15), 10);
        e.due("MOOD", x.count(16), 9);
        e.says("NONE for others.");
        for (int what : new int[] {17, -1, Edges.LEAST, Edges.MOST}) {
            e.due("count(" + what + ")", x.count(what), NONE);
        }
    }

    private void refusalsCounted() {
        e.says(", 8 .. 12 how many calls were REFUSED by -1, -2, -3, -5, -6 (IMAGES do not keep that)");
        VaultLeases x = Check.small();
        x.image(0);
        int[] by = {1, 1, 2, 2, 2, 3, 3, 3, 3, 6, 6, 6, 6, 6};
        int[] due = new int[7];
        for (int one : by) {
            int told = one == 1 ? x.vault(0) : one == 2 ? x.knock(9) : one == 3 ? x.lodge(0, 0) : x.row();
            e.due("REFUSED", told, -one);
            due[one]++;
            e.due("-1", x.count(8), due[1]);
            e.due("-2", x.count(9), due[2]);
            e.due("-3", x.count(10), due[3]);
            e.due("-5", x.count(11), 0);
            e.due("-6", x.count(12), due[6]);
        }
        for (int i = 0; i < 9; i++) {
            x.seen(0, 0);
        }
        e.due("-5", x.count(11), 1);
        x.back(0);
        e.due("not kept: -1", x.count(8), 2);
        e.due("not kept: -2", x.count(9), 3);
        e.due("not kept: -3", x.count(10), 4);
        e.due("not kept: -5", x.count(11), 1);
        e.due("not kept: -6", x.count(12), 5);
        x.at(9, 9);
        x.has(9, 9);
        x.of(9, 9);
        x.asks(9, 9, 9);
        x.end(-1);
        x.inside(-1);
        x.keep(9, 9, 9);
        x.when(9, 9);
        x.look(9);
        x.rooms(99);
        x.packed(9);
        x.changes(-9);
        x.few(0, 0);
        x.compare(9);
        x.drawn(9, 9);
        x.count(99);
        for (int i = 0; i < 21; i++) {
            x.feed(0, 0, 0, 0, 0);
        }
        e.due("questions, feed(), end() are not REFUSED", x.count(8) + x.count(9) + x.count(10) + x.count(11) + x.count(12), 15);
    }

    private void status(VaultLeases x, String call, int told) {
        e.due("status behind " + call + ", which told " + told, x.status(), Math.min(0, told));
    }

    private void promise43() {
        e.promise(43);
        e.says("What the latest call of vault, family, dead, wish, terms, row, law, orders, force, renew, lodge, knock, pass, undo, seen, centuries, image, back was REFUSED by");
        VaultLeases x = new VaultLeases();
        int[][] calls = {{0, 0}, {0, 1}, {0, 3}, {0, 1}, {0, 1}, {0, 1}, {0, 1}, {1, -1}, {1, 30}, {1, 1}, {1, 1}, {1, 1}, {1, 1}};
        for (int[] one : calls) {
            status(x, one[0] == 0 ? "vault" : "family", one[0] == 0 ? x.vault(one[1]) : x.family(one[1]));
        }
        status(x, "centuries", x.centuries(0, 1));
        int[][] dead = {{0, 0, 0}, {9, 0, 1}, {0, 0, 1}, {0, 0, 1}, {0, 1, 5}};
        for (int[] one : dead) {
            status(x, "dead", x.dead(one[0], one[1], one[2]));
        }
        int[][] wishes = {{0, 0, 10}, {0, 0, 1}, {9, 0, 1}, {0, 1, 2}};
        for (int[] one : wishes) {
            int told = x.wish(one[0], one[1], one[2]);
            status(x, "wish", told);
        }
        for (int what : new int[] {3, 2, -1, 1}) {
            status(x, "terms", x.terms(what, 2));
        }
        status(x, "row", x.row());
        status(x, "row", Check.row(x, 0, 2, 1));
        status(x, "law", Check.law(x, "bar"));
        status(x, "law", Check.law(x, "bars if 1=2"));
        status(x, "orders", Check.orders(x, "pas"));
        status(x, "orders", Check.orders(x, "pass if 1=2"));
        status(x, "orders", Check.orders(x, "knock 9"));
        acts(x);
        others(x);
    }

    private void acts(VaultLeases x) {
        for (int law : new int[] {9, 0}) {
            int told = x.force(law);
            e.due("status behind force(" + law + ")", x.status(), law == 9 ? told : 0);
        }
        for (int d : new int[] {9, 1}) {
            status(x, "renew", x.renew(d));
            status(x, "knock", x.knock(d));
            status(x, "knock", x.knock(d));
        }
        for (int v : new int[] {9, 1, 3}) {
            status(x, "lodge", x.lodge(1, v));
        }
        status(x, "renew of one whose FAMILY has too little", Check.orders(x, "renew 1 times 9"));
        status(x, "pass", x.pass());
        status(x, "undo", x.undo());
        x.terms(0, 999);
        status(x, "undo", x.undo());
        status(x, "wish", x.wish(0, 0, 1));
        status(x, "pass", x.pass());
    }

    private void others(VaultLeases x) {
        for (int i = 0; i < 10; i++) {
            status(x, "seen", x.seen(i == 3 ? 100 : 0, 0));
        }
        for (int n : new int[] {0, 1, 61}) {
            status(x, "centuries", x.centuries(0, n));
        }
        for (int k : new int[] {2, 0, -1, 1}) {
            status(x, "image", x.image(k));
            status(x, "wish", x.wish(0, 9, 1));
            status(x, "back", x.back(k));
            status(x, "undo", x.undo());
        }
        status(x, "image", x.image(0));
        x.terms(0, 5);
        x.wish(0, 9, 1);
        status(x, "pass", x.pass());
        x.wish(0, 9, 1);
        status(x, "undo", x.undo());
        VaultLeases y = new VaultLeases();
        status(y, "back", y.back(0));
        for (int i = 0; i < 7; i++) {
            status(y, "law", Check.law(y, "bars"));
        }
        status(y, "force", y.force(-2));
        y.at(0, 0);
        y.feed(0, 0, 0, 0, 0);
        y.end(0);
        y.forget();
        y.fault();
        y.empty();
        y.count(0);
        e.due("others leave it", y.status(), -2);
        e.due("it leaves itself", y.status(), -2);
        e.says("; 0 if it was not, or ahead of any.");
        e.due("ahead of any", new VaultLeases().status(), 0);
        y.pass();
        e.due("it was not", y.status(), 0);
        VaultLeases z = new VaultLeases();
        z.end(9);
        z.at(9, 9);
        e.due("ahead of any of these", z.status(), 0);
    }
}
