/** Sentences about LAWS: Terms II, its second part; promises 15, 17, 19. */
final class LawEdges {
    private static final int NONE = Edges.NONE;

    private final Edges e;

    LawEdges(Edges e) {
        this.e = e;
    }

    void run() {
        howMany();
        grammar();
        askedOfTheDead();
        askedOfFamilies();
        bars();
        holds();
        prices();
        promise15();
        promise17();
        promise19();
    }

    private void howMany() {
        e.terms();
        e.says("LAWS, 6 at most");
        VaultLeases x = Check.small();
        for (int i = 0; i < 6; i++) {
            e.law(x, "prices " + (20 + i), i);
        }
        e.law(x, "prices 1", -5);
        e.due("none came", x.count(5), 6);
        x.force(5);
        e.due("the sixth", x.of(0, 4), 25);
        e.says("; one is in FORCE (NONE at first: no CLAUSE)");
        VaultLeases y = Check.small();
        e.due("none at first", y.count(13), NONE);
        e.law(y, "prices 9;lasts 9;earns 9;bars", 0);
        e.due("a LAW is not in FORCE by itself", y.count(13), NONE);
        e.due("PRICED without", y.of(0, 4), 5);
        e.due("LASTS without", y.of(0, 5), 10);
        e.due("EARNS without", y.has(0, 1), 10);
        e.due("BARRED without", y.asks(0, 1, 1), 0);
        e.due("force", y.force(0), NONE);
        e.due("PRICED", y.of(0, 4), 9);
        e.due("LASTS", y.of(0, 5), 9);
        e.due("EARNS", y.has(0, 1), 9);
        e.due("BARRED", y.asks(0, 1, 1), 1);
    }

    private void grammar() {
        e.says(": CLAUSE: ((\"prices\" | \"lasts\" | \"earns\") SUM | \"bars\") [\"if\" TEST].");
        for (String head : new String[] {"prices", "lasts", "earns"}) {
            e.right(head + " 1");
            e.right(head + " 1 if 1=1");
            e.faultOfLaw(head, head.length());
            e.faultOfLaw(head + " if 1=1", head.length() + 1);
            e.faultOfLaw(head + " 1=1", head.length() + 2);
            e.faultOfLaw(head + " 1 if", head.length() + 5);
            e.faultOfLaw(head + " 1 times 2", head.length() + 3);
        }
        e.right("bars");
        e.right("bars if 1=1");
        e.faultOfLaw("bars 1", 5);
        e.faultOfLaw("bars if", 7);
        e.faultOfLaw("bars if 1=1 if 1=1", 12);
        e.faultOfLaw("bars times 2", 5);
        for (String head : new String[] {"renew 0", "lodge 0 in 0", "knock 0", "pass", "if", "1"}) {
            e.faultOfLaw(head, 0);
        }
        e.says("Words: \"dead\" | \"family\" | \"vault\" | \"term\" | \"means\" | \"beds\" | \"free\" | \"year\" | \"mood\".");
        for (String word : new String[] {"dead", "family", "vault", "term", "means", "beds", "free", "year", "mood"}) {
            e.right("prices " + word);
            e.right("bars if " + word + "=" + word);
            e.faultOfLaw("prices " + word + " 1", 8 + word.length());
            e.faultOfLaw("prices " + word.substring(1), 7);
            e.faultOfLaw("prices q" + word.substring(1), 7);
            e.faultOfLaw("prices " + word.substring(0, word.length() - 1), 7);
            e.faultOfLaw("prices " + word + "s", 7);
        }
        for (String word : new String[] {"done", "latest", "inside", "in", "times", "bars", "not"}) {
            e.faultOfLaw("prices " + word, 7);
        }
    }

    /** VAULT 0 (2 BEDS) with DEAD 0; VAULT 1 (1) with DEAD 2; DEAD 1 OUT; YEAR 18, MOOD 8; MEANS 40, 17. */
    private VaultLeases oneOut(String law) {
        VaultLeases x = Check.small();
        x.terms(0, 17);
        x.terms(2, 8);
        x.pass();
        e.law(x, law, 0);
        x.force(0);
        return x;
    }

    private static final String[] WORDS = {"dead", "family", "vault", "term", "means", "beds", "free", "year", "mood"};

    private void askedOfTheDead() {
        e.says("\"prices\", \"lasts\" are asked of one of the DEAD (vault: its own, beds, free: of that; -1 each, if OUT)");
        int[][] due = {{0, 0, 0, 2, 40, 2, 1, 18, 8}, {1, 1, -1, 0, 17, -1, -1, 18, 8}, {2, 0, 1, 11, 40, 1, 0, 18, 8}};
        for (int i = 0; i < WORDS.length; i++) {
            VaultLeases x = oneOut("prices 50 + " + WORDS[i] + ";lasts 10 + " + WORDS[i] + " if " + WORDS[i] + " < 11");
            for (int d = 0; d < 3; d++) {
                e.due(WORDS[i] + " of DEAD " + d, x.of(d, 4), 50 + due[d][i]);
                e.due(WORDS[i] + " of DEAD " + d, x.of(d, 5), 10 + (due[d][i] < 11 ? due[d][i] : 0));
            }
        }
    }

    private void askedOfFamilies() {
        e.says(", \"earns\" of a FAMILY (dead, vault, term, beds, free -1)");
        int[] first = {-1, 0, -1, -1, 40, -1, -1, 18, 8};
        int[] second = {-1, 1, -1, -1, 17, -1, -1, 18, 8};
        for (int i = 0; i < WORDS.length; i++) {
            VaultLeases x = oneOut("earns 50 + " + WORDS[i]);
            e.due(WORDS[i] + " of FAMILY 0", x.has(0, 1), 50 + first[i]);
            e.due(WORDS[i] + " of FAMILY 1", x.has(1, 1), 50 + second[i]);
        }
        VaultLeases y = oneOut("earns 50 + dead + vault + term + beds + free");
        e.due("ahead of it, prices of one who is IN", y.of(0, 4), 5);
        e.due("-1 each", y.has(0, 1), 45);
    }

    private void bars() {
        e.says(", \"bars\" of one of the DEAD and a VAULT (beds, free: of that)");
        int[] twoOfNought = {2, 0, 0, 11, 40, 2, 1, 18, 8};
        int[] oneOfOne = {1, 1, 1, 0, 17, 1, 0, 18, 8};
        for (int i = 0; i < WORDS.length; i++) {
            VaultLeases x = oneOut("bars if " + WORDS[i] + "=" + twoOfNought[i]);
            e.due(WORDS[i] + " of DEAD 2, which lies elsewhere, and VAULT 0", x.asks(2, 0, 1), 1);
            x = oneOut("bars if not " + WORDS[i] + "=" + oneOfOne[i]);
            e.due(WORDS[i] + " of DEAD 1, which is OUT, and VAULT 1", x.asks(1, 1, 1), 0);
        }
        e.says("; means: of the FAMILY");
        VaultLeases y = oneOut("prices means;bars if means = 17;earns means");
        e.due("of the FAMILY of DEAD 0", y.of(0, 4), 40);
        e.due("of the FAMILY of DEAD 1", y.of(1, 4), 17);
        e.due("BARRED", y.asks(1, 0, 1), 1);
        e.due("not BARRED", y.asks(0, 0, 1), 0);
        e.due("EARNS", y.has(0, 1), 40);
        e.says("; free: BEDS nobody lies in.");
        VaultLeases z = e.under("prices 50 + free");
        e.due("full", z.of(0, 4), 50);
        z.pass();
        e.due("one is OUT", z.of(0, 4), 51);
        z.vault(3);
        z.lodge(0, 2);
        e.due("alone", z.of(0, 4), 52);
    }

    private void holds() {
        e.says("A CLAUSE HOLDS, if its \"if\" (if it has one) is so, and neither that nor its SUM is BROKEN.");
        e.priced("7", 7);
        e.priced("7 if term=3", 7);
        e.priced("7 if term=4", 50);
        e.priced("7/0", 50);
        e.priced("7/0 if term=3", 50);
        e.priced("7 if 1/0=1", 50);
        e.priced("7;prices 8/0;prices 9 if 1/0=0", 7);
        VaultLeases x = e.under("lasts 3;lasts 1/0;earns 4;earns 5 if 1=2");
        e.due("LASTS", x.of(0, 5), 3);
        e.due("EARNS", x.has(0, 1), 4);
    }

    private void prices() {
        e.says("A renewal is PRICED at what the last \"prices\" that HOLDS tells, 1 .. 99 (else the nearest), 5 without");
        e.priced("7;prices 8", 8);
        e.priced("7;prices 8 if 1=2", 7);
        e.priced("1", 1);
        e.priced("0", 1);
        e.priced("0-1", 1);
        e.priced("0-1000*1000*1000", 1);
        e.priced("99", 99);
        e.priced("100", 99);
        e.priced("1000*1000*1000", 99);
        e.due("without", e.under("lasts 7;earns 8;bars;prices 9 if 1=2").of(0, 4), 5);
        e.says("; it LASTS 1 .. 20 YEARS, 10 without");
        int[][] lasts = {{0, 1}, {1, 1}, {2, 2}, {19, 19}, {20, 20}, {21, 20}, {1000, 20}};
        for (int[] one : lasts) {
            e.due("lasts " + one[0], e.under("lasts 7;lasts " + one[0]).of(0, 5), one[1]);
        }
        e.due("below 0", e.under("lasts 0-1").of(0, 5), 1);
        e.due("without", e.under("prices 7;earns 8;bars;lasts 9 if 1=2").of(0, 5), 10);
        e.says("; a FAMILY EARNS 0 .. 99 a YEAR, 10 without");
        int[][] earns = {{0, 0}, {1, 1}, {98, 98}, {99, 99}, {100, 99}, {1000, 99}};
        for (int[] one : earns) {
            e.due("earns " + one[0], e.under("earns 7;earns " + one[0]).has(0, 1), one[1]);
        }
        e.due("below 0", e.under("earns 0-1").has(0, 1), 0);
        e.due("without", e.under("prices 7;lasts 8;bars;earns 9 if 1=2").has(0, 1), 10);
        e.says("; one is BARRED from a VAULT, if \"bars\" HOLDS.");
        e.due("one of two HOLDS", e.under("bars;bars if 1=2").asks(0, 1, 1), 1);
        e.due("one of two HOLDS", e.under("bars if 1=2;bars").asks(0, 1, 1), 1);
        e.due("none HOLDS", e.under("bars if 1=2;bars if 1/0=1").asks(0, 1, 1), 0);
        e.due("none", e.under("prices 1").asks(0, 1, 1), 0);
    }

    private void promise15() {
        e.promise(15);
        e.says("The TAPE, which is empty then, becomes a LAW: its number.");
        VaultLeases x = Check.small();
        e.law(x, "prices 9", 0);
        e.due("the TAPE is empty", x.count(7), 0);
        e.law(x, "prices 8", 1);
        e.due("LAWS", x.count(5), 2);
        x.force(1);
        e.due("the second", x.of(0, 4), 8);
        e.says("-5 (ahead of reading it; the TAPE is empty then, too)");
        for (int i = 2; i < 6; i++) {
            e.law(x, "prices 7", i);
        }
        e.orders(x, "pass times 0", -6);
        e.law(x, "prices 6", -5);
        e.due("the TAPE is empty", x.count(7), 0);
        e.due("the FAULT is that of the latest that was read", x.fault(), 11);
        e.law(x, "?", -5);
        e.due("the TAPE is empty", x.count(7), 0);
        e.due("the FAULT is that of the latest that was read", x.fault(), 11);
        e.due("LAWS", x.count(5), 6);
        e.says("; -6 (blanks alone: FAULT at the end).");
        VaultLeases y = new VaultLeases();
        e.law(y, "bar", -6);
        e.due("no LAW came", y.count(5), 0);
        e.due("the TAPE is empty", y.count(7), 0);
        e.law(y, " ", -6);
        e.due("fault", y.fault(), 1);
        e.law(y, " ".repeat(400), -6);
        e.due("fault", y.fault(), 400);
        e.due("an empty one", y.law(), -6);
        e.due("fault", y.fault(), 0);
        e.law(y, "bars", 0);
        e.due("no FAULT", y.fault(), NONE);
    }

    private void promise17() {
        e.promise(17);
        e.says("FAULT of the latest law(), orders() that read a TEXT: its place; NONE without.");
        VaultLeases x = Check.small();
        e.due("ahead of any", x.fault(), NONE);
        e.law(x, "bars 7", -6);
        e.due("of law()", x.fault(), 5);
        x.row();
        x.pass();
        Check.row(x, 1, 2);
        e.due("others leave it", x.fault(), 5);
        e.orders(x, "pass 7 7", -6);
        e.due("of orders()", x.fault(), 5);
        e.orders(x, "pass;", -6);
        e.due("of orders()", x.fault(), 5);
        e.orders(x, "pass", 1);
        e.due("none", x.fault(), NONE);
        e.law(x, "?", -6);
        e.due("at the first byte", x.fault(), 0);
        e.orders(x, "knock 9", -3);
        e.due("one that can't be was read without FAULT", x.fault(), NONE);
        e.law(x, "?", -6);
        e.law(x, "bars", 0);
        e.due("none", x.fault(), NONE);
        x.image(0);
        e.law(x, "bars bars", -6);
        x.back(0);
        e.due("an IMAGE does not keep it", x.fault(), 5);
    }

    private void promise19() {
        e.promise(19);
        e.says("A LAW is in FORCE (NONE: none): which was.");
        VaultLeases x = Check.small();
        e.due("none, as it was", x.force(NONE), NONE);
        e.law(x, "prices 8", 0);
        e.law(x, "prices 9", 1);
        e.due("the second", x.force(1), NONE);
        e.due("PRICED", x.of(0, 4), 9);
        e.due("the first", x.force(0), 1);
        e.due("PRICED", x.of(0, 4), 8);
        e.due("the same", x.force(0), 0);
        e.due("none", x.force(NONE), 0);
        e.due("PRICED", x.of(0, 4), 5);
        e.says("-2.");
        x.force(1);
        for (int law : new int[] {2, -2, 6, Edges.LEAST, Edges.MOST}) {
            e.due("force(" + law + ")", x.force(law), -2);
        }
        e.due("as it was", x.count(13), 1);
    }
}
