/** Sentences about VAULTS, FAMILIES, the DEAD, WISHES, TERMS: Terms I, promises 1 to 10. */
final class GroundEdges {
    private static final int NONE = Edges.NONE;
    private static final int NOTHING = Edges.NOTHING;
    private static final int LEAST = Edges.LEAST;
    private static final int MOST = Edges.MOST;

    private final Edges e;

    GroundEdges(Edges e) {
        this.e = e;
    }

    void run() {
        vaults();
        families();
        theDead();
        seenAndTerms();
        refusals();
        theFirstRefusal();
        constants();
        promise1();
        promise2();
        promise3();
        promise4();
        promise5();
        promise6();
        promise7();
        promise8();
        promise9();
        promise10();
    }

    /** Three VAULTS of three BEDS, one FAMILY, so many DEAD with TERM 9. */
    private static VaultLeases wide(int dead) {
        VaultLeases x = new VaultLeases();
        for (int v = 0; v < 3; v++) {
            x.vault(3);
        }
        x.family(0);
        for (int d = 0; d < dead; d++) {
            x.dead(0, d / 3, 9);
        }
        return x;
    }

    private void vaults() {
        e.terms();
        e.says("I. VAULTS 0 .. 4 (5 at most)");
        VaultLeases x = new VaultLeases();
        for (int v = 0; v < 5; v++) {
            e.due("VAULT " + v + " is not there yet", x.at(v, 0), NONE);
            e.due("vault", x.vault(1), v);
            e.due("VAULT " + v + " is there", x.at(v, 0), 1);
        }
        e.due("a sixth", x.vault(1), -5);
        e.due("none came", x.count(0), 5);
        e.due("VAULT 5", x.at(5, 0), NONE);
        e.says("BEDS 1 .. 3.");
        VaultLeases y = new VaultLeases();
        for (int beds : new int[] {0, 4, -1, LEAST, MOST}) {
            e.due("vault(" + beds + ")", y.vault(beds), -1);
        }
        e.due("none came", y.count(0), 0);
        e.due("vault(1)", y.vault(1), 0);
        e.due("vault(3)", y.vault(3), 1);
        e.due("one BED", y.at(0, 0), 1);
        e.due("three", y.at(1, 0), 3);
    }

    private void families() {
        e.says("FAMILIES 0 .. 3 (4 at most)");
        VaultLeases x = new VaultLeases();
        for (int f = 0; f < 4; f++) {
            e.due("FAMILY " + f + " is not there yet", x.has(f, 0), NONE);
            e.due("family", x.family(5), f);
            e.due("FAMILY " + f + " is there", x.has(f, 0), 5);
        }
        e.due("a fifth", x.family(5), -5);
        e.due("none came", x.count(1), 4);
        e.due("FAMILY 4", x.has(4, 0), NONE);
        e.says("MEANS 0 .. 999.");
        VaultLeases y = new VaultLeases();
        for (int means : new int[] {-1, 1000, LEAST, MOST}) {
            e.due("family(" + means + ")", y.family(means), -1);
        }
        e.due("none came", y.count(1), 0);
        e.due("family(0)", y.family(0), 0);
        e.due("family(999)", y.family(999), 1);
        e.due("nothing", y.has(0, 0), 0);
        e.due("all", y.has(1, 0), 999);
    }

    private void theDead() {
        e.says("The DEAD 0 .. 7 (8 at most): a FAMILY, a VAULT, or OUT (NONE)");
        VaultLeases x = wide(0);
        for (int d = 0; d < 8; d++) {
            e.due("DEAD " + d + " is not there yet", x.of(d, 0), NOTHING);
            e.due("dead", x.dead(0, d / 3, d == 3 ? 1 : 9), d);
            e.due("its FAMILY", x.of(d, 0), 0);
            e.due("its VAULT", x.of(d, 1), d / 3);
        }
        e.due("a ninth", x.dead(0, 2, 9), -5);
        e.due("nobody came", x.count(2), 8);
        e.due("DEAD 8", x.of(8, 0), NOTHING);
        x.pass();
        e.due("OUT", x.of(3, 1), NONE);
        e.due("of its FAMILY yet", x.of(3, 0), 0);
        e.due("a ninth, though one is OUT", x.dead(0, 1, 9), -5);
        e.says("TERM 0 .. 99 (years; 0 for all who are OUT, 1 or more for others)");
        VaultLeases y = wide(0);
        for (int term : new int[] {0, 100, -1, LEAST, MOST}) {
            e.due("TERM " + term, y.dead(0, 0, term), -1);
        }
        e.due("TERM 1", y.dead(0, 0, 1), 0);
        e.due("TERM 99", y.dead(0, 0, 99), 1);
        e.due("1", y.of(0, 2), 1);
        e.due("99", y.of(1, 2), 99);
        y.pass();
        e.due("0 for one who is OUT", y.of(0, 2), 0);
        y.pass();
        e.due("0 ever on", y.of(0, 2), 0);
        y.lodge(0, 1);
        e.due("1 for one who is IN again", y.of(0, 2), 1);
        e.says("KNOCKED or not (at first)");
        VaultLeases z = wide(8);
        for (int d = 0; d < 8; d++) {
            e.due("DEAD " + d, z.of(d, 3), 0);
            z.knock(d);
            e.due("DEAD " + d, z.of(d, 3), 1);
        }
        e.says("WISHES 0 .. 9 for each VAULT (0 at first).");
        VaultLeases w = wide(8);
        w.vault(1);
        w.vault(1);
        for (int d = 0; d < 8; d++) {
            for (int v = 0; v < 5; v++) {
                e.due("at first", w.asks(d, v, 0), 0);
                e.due("wish", w.wish(d, v, (d + v) % 10), 0);
            }
        }
        for (int d = 0; d < 8; d++) {
            for (int v = 0; v < 5; v++) {
                e.due("each for itself", w.asks(d, v, 0), (d + v) % 10);
            }
        }
        e.due("9", w.wish(0, 0, 9), 0);
        e.due("0", w.wish(0, 0, 0), 9);
        for (int value : new int[] {10, -1, LEAST, MOST}) {
            e.due("wish " + value, w.wish(0, 0, value), -1);
        }
        e.due("as it was", w.asks(0, 0, 0), 0);
    }

    private void seenAndTerms() {
        e.says("SEEN, 8 at most");
        VaultLeases x = new VaultLeases();
        for (int i = 1; i <= 8; i++) {
            e.due("seen", x.seen(i, 0), i);
        }
        e.due("a ninth", x.seen(1, 0), -5);
        e.due("it did not come", x.count(4), 8);
        e.says("n YEARS 0 .. 99 on the stranger was OUT (1) or IN (0).");
        VaultLeases y = Check.small();
        for (int n : new int[] {-1, 100, LEAST, MOST}) {
            e.due("n " + n, y.seen(n, 1), -1);
        }
        for (int out : new int[] {-1, 2, LEAST, MOST}) {
            e.due("out " + out, y.seen(1, out), -1);
        }
        e.due("none came", y.count(4), 0);
        e.due("n 0", y.seen(0, 0), 1);
        e.due("n 99", y.seen(99, 1), 2);
        e.due("now IN, OUT in the end", y.stranger(), 7);
        e.due("IN in 1", y.seen(1, 0), 3);
        e.due("two", y.stranger(), 5);
        e.due("OUT in 3", y.seen(3, 1), 4);
        e.due("one", y.stranger(), 1);
        e.says("TERMS: 0 YEAR 0 .. 999 (0 at first)");
        term(0, 999, 0);
        e.says("1 DIES 0 .. 10 (2)");
        term(1, 10, 2);
        e.says("2 MOOD 0 .. 9 (0).");
        term(2, 9, 0);
    }

    private void term(int what, int highest, int first) {
        VaultLeases x = new VaultLeases();
        e.due("at first", x.count(14 + what), first);
        e.due("the highest", x.terms(what, highest), first);
        for (int value : new int[] {-1, highest + 1, LEAST, MOST}) {
            e.due("terms " + value, x.terms(what, value), -1);
        }
        e.due("as it was", x.count(14 + what), highest);
        e.due("the lowest", x.terms(what, 0), highest);
        e.due("it is that", x.count(14 + what), 0);
    }

    private void refusals() {
        e.says("REFUSED by: -1 a number that can't be");
        VaultLeases x = Check.small();
        e.due("BEDS", x.vault(4), -1);
        e.due("MEANS", x.family(-1), -1);
        e.due("TERM", x.dead(0, 0, 100), -1);
        e.due("WISHES", x.wish(0, 0, 10), -1);
        e.due("a TERM", x.terms(1, 11), -1);
        e.due("YEARS", x.seen(100, 0), -1);
        e.due("a SEED", x.centuries(-1, 1), -1);
        e.due("an IMAGE", x.image(2), -1);
        e.says("-2 there is no such VAULT, FAMILY, DEAD, LAW, IMAGE");
        e.due("VAULT", x.lodge(0, 2), -2);
        e.due("FAMILY", x.dead(2, 0, 1), -2);
        e.due("DEAD", x.knock(3), -2);
        e.due("LAW", x.force(0), -2);
        e.due("IMAGE", x.back(0), -2);
        e.says("-3 it can't be by what stands");
        e.due("no BED", x.dead(0, 0, 1), -3);
        e.due("full", x.lodge(0, 1), -3);
        e.due("nothing to undo", x.undo(), -3);
        e.says("-5 no room");
        VaultLeases full = new VaultLeases();
        for (int i = 0; i < 8; i++) {
            full.vault(1);
            full.family(1);
            full.seen(1, 1);
        }
        e.due("VAULTS", full.vault(1), -5);
        e.due("FAMILIES", full.family(1), -5);
        e.due("SEEN", full.seen(1, 1), -5);
        e.due("DEAD", wide(8).dead(0, 2, 1), -5);
        e.says("-6 a TEXT, a ROW that can't be.");
        e.due("a LAW", Check.law(x, "?"), -6);
        e.due("ORDERS", Check.orders(x, "?"), -6);
        e.due("a ROW", x.row(), -6);
    }

    private void theFirstRefusal() {
        e.says("The first of these in that order.");
        VaultLeases x = wide(8);
        x.vault(1);
        x.vault(1);
        for (int i = 0; i < 8; i++) {
            x.family(1);
            x.seen(1, 1);
        }
        e.due("vault: -1, -5", x.vault(0), -1);
        e.due("family: -1, -5", x.family(-1), -1);
        e.due("seen: -1, -5", x.seen(-1, 0), -1);
        e.due("dead: -1, -2, -5", x.dead(4, 5, 0), -1);
        e.due("dead: -1, -3, -5", x.dead(0, 0, 0), -1);
        e.due("dead: -2, -3, -5, by the FAMILY", x.dead(4, 0, 1), -2);
        e.due("dead: -2, -5, by the VAULT", x.dead(0, 5, 1), -2);
        e.due("dead: -3, -5", x.dead(0, 0, 1), -3);
        e.due("dead: -5", x.dead(0, 3, 1), -5);
        e.due("wish: -1, -2", x.wish(8, 5, 10), -1);
        e.due("lodge: -2, -3, by the DEAD", x.lodge(8, 0), -2);
        e.due("lodge: -2, -3, by the VAULT", x.lodge(0, 5), -2);
        e.due("back: -1, -2", x.back(2), -1);
        VaultLeases y = new VaultLeases();
        e.due("centuries: -1, -3", y.centuries(0, 0), -1);
        e.due("centuries: -3", y.centuries(0, 1), -3);
        for (int i = 0; i < 6; i++) {
            Check.law(y, "bars");
        }
        e.due("law: -5, -6", Check.law(y, "?"), -5);
        e.due("law: -5, -6, empty", y.law(), -5);
    }

    private void constants() {
        e.says("The constants: `NONE = -1`: There is none; OUT.");
        VaultLeases x = Check.small();
        x.pass();
        e.due("NONE", VaultLeases.NONE, -1);
        e.due("there is no LAW", x.count(13), NONE);
        e.due("one is OUT", x.of(1, 1), NONE);
        e.says("`NOTHING = -100`: What is not there, where it could be NONE.");
        e.due("NOTHING", VaultLeases.NOTHING, -100);
        e.due("there is no such", x.of(3, 1), NOTHING);
        e.due("there are no CENTURIES", x.drawn(0, 0), NOTHING);
    }

    private void promise1() {
        e.promise(1);
        e.says("A ground without vaults.");
        VaultLeases x = new VaultLeases();
        for (int i = 0; i < 17; i++) {
            e.due("count(" + i + ")", x.count(i), i == 13 ? NONE : i == 15 ? 2 : 0);
        }
        e.due("no VAULT", x.at(0, 0), NONE);
        e.due("no FAMILY", x.has(0, 0), NONE);
        e.due("no DEAD", x.of(0, 0), NOTHING);
        e.due("no LAW", x.compare(0), NONE);
        e.due("no IMAGE", x.back(0), -2);
        e.due("no IMAGE", x.back(1), -2);
        e.due("two objects share nothing", new VaultLeases().vault(1) + new VaultLeases().vault(1), 0);
    }

    private void promise2() {
        e.promise(2);
        e.says("A VAULT: its number.");
        VaultLeases x = new VaultLeases();
        e.due("the first", x.vault(2), 0);
        e.due("the second", x.vault(3), 1);
        e.due("it is empty", x.at(1, 1), 3);
        e.says("-1; -5.");
        e.due("BEDS 0", x.vault(0), -1);
        e.due("BEDS 4", x.vault(4), -1);
        x.vault(1);
        x.vault(1);
        e.due("the fifth", x.vault(1), 4);
        e.due("the sixth", x.vault(1), -5);
        e.due("the sixth, with a number that can't be", x.vault(4), -1);
    }

    private void promise3() {
        e.promise(3);
        e.says("Of a VAULT BEDS (what 0), how many are free (1), who lies there, as bits (2).");
        VaultLeases x = wide(8);
        e.due("BEDS", x.at(0, 0), 3);
        e.due("none is free", x.at(0, 1), 0);
        e.due("the lowest three", x.at(0, 2), 7);
        e.due("one is free", x.at(2, 1), 1);
        e.due("the highest two", x.at(2, 2), 192);
        x.vault(2);
        e.due("all are free", x.at(3, 1), 2);
        e.due("nobody lies there", x.at(3, 2), 0);
        e.says("NONE.");
        for (int vault : new int[] {4, -1, LEAST, MOST}) {
            for (int what = 0; what < 3; what++) {
                e.due("at(" + vault + ", " + what + ")", x.at(vault, what), NONE);
            }
        }
        for (int what : new int[] {3, -1, LEAST, MOST}) {
            e.due("at(0, " + what + ")", x.at(0, what), NONE);
        }
    }

    private void promise4() {
        e.promise(4);
        e.says("A FAMILY: the number.");
        VaultLeases x = new VaultLeases();
        e.due("the first", x.family(0), 0);
        e.due("the second", x.family(999), 1);
        e.says("-1; -5.");
        e.due("MEANS -1", x.family(-1), -1);
        e.due("MEANS 1000", x.family(1000), -1);
        x.family(1);
        e.due("the fourth", x.family(1), 3);
        e.due("the fifth", x.family(1), -5);
        e.due("the fifth, with a number that can't be", x.family(-1), -1);
    }

    private void promise5() {
        e.promise(5);
        e.says("Of a FAMILY MEANS (what 0), what it EARNS (1), its DEAD, as bits (2), the BILL (3).");
        VaultLeases x = wide(0);
        x.family(17);
        for (int d = 0; d < 8; d++) {
            x.dead(d == 7 ? 1 : 0, d / 3, d == 1 ? 1 : 9);
        }
        e.due("MEANS", x.has(1, 0), 17);
        e.due("EARNS", x.has(1, 1), 10);
        e.due("the highest alone", x.has(1, 2), 128);
        e.due("all others", x.has(0, 2), 127);
        e.due("BILL", x.has(0, 3), 35);
        x.pass();
        e.due("one who is OUT is its own yet", x.has(0, 2), 127);
        e.due("no BILL for that one", x.has(0, 3), 30);
        x.family(1);
        e.due("without DEAD", x.has(2, 2), 0);
        e.due("no BILL", x.has(2, 3), 0);
        e.says("NONE.");
        for (int family : new int[] {3, -1, LEAST, MOST}) {
            for (int what = 0; what < 4; what++) {
                e.due("has(" + family + ", " + what + ")", x.has(family, what), NONE);
            }
        }
        for (int what : new int[] {4, -1, LEAST, MOST}) {
            e.due("has(0, " + what + ")", x.has(0, what), NONE);
        }
    }

    private void promise6() {
        e.promise(6);
        e.says("One of the DEAD: the number.");
        VaultLeases x = new VaultLeases();
        x.vault(1);
        x.vault(2);
        x.family(0);
        e.due("the first", x.dead(0, 1, 99), 0);
        e.due("the second", x.dead(0, 1, 1), 1);
        e.says("-1 (TERM 1 .. 99)");
        e.due("TERM 0", x.dead(0, 0, 0), -1);
        e.due("TERM 100", x.dead(0, 0, 100), -1);
        e.says("-2;");
        for (int none : new int[] {1, -1, LEAST, MOST}) {
            e.due("FAMILY " + none, x.dead(none, 0, 1), -2);
            e.due("VAULT " + none, x.dead(0, none == 1 ? 2 : none, 1), -2);
        }
        e.says("-3 no BED is free");
        e.due("full", x.dead(0, 1, 1), -3);
        e.due("nobody came", x.count(2), 2);
        x.pass();
        e.due("one is OUT, so a BED is free", x.dead(0, 1, 1), 2);
        e.due("full again", x.dead(0, 1, 1), -3);
        e.says("-5.");
        VaultLeases y = wide(7);
        e.due("the eighth", y.dead(0, 2, 1), 7);
        e.due("the ninth", y.dead(0, 2, 1), -5);
        e.due("the ninth, where no BED is free", y.dead(0, 1, 1), -3);
        e.due("eight", y.count(2), 8);
    }

    private void promise7() {
        e.promise(7);
        e.says("Of one of the DEAD the FAMILY (what 0), the VAULT (1; NONE: OUT), TERM (2), whether it KNOCKED (3: 1, 0), what a renewal is PRICED at (4), how long it LASTS (5).");
        VaultLeases x = e.under("prices 20 + vault;lasts 15 + vault");
        int[] due = {1, 0, 1, 0, 20, 15};
        for (int what = 0; what < due.length; what++) {
            e.due("of(1, " + what + ")", x.of(1, what), due[what]);
        }
        x.knock(1);
        e.due("TERM", x.of(1, 2), 2);
        e.due("it KNOCKED", x.of(1, 3), 1);
        x.pass();
        x.pass();
        int[] out = {1, NONE, 0, 1, 19, 14};
        for (int what = 0; what < out.length; what++) {
            e.due("OUT: of(1, " + what + ")", x.of(1, what), out[what]);
        }
        e.says("NOTHING.");
        for (int dead : new int[] {3, -1, 8, LEAST, MOST}) {
            for (int what = 0; what < 6; what++) {
                e.due("of(" + dead + ", " + what + ")", x.of(dead, what), NOTHING);
            }
        }
        for (int what : new int[] {6, -1, LEAST, MOST}) {
            e.due("of(0, " + what + ")", x.of(0, what), NOTHING);
        }
    }

    private void promise8() {
        e.promise(8);
        e.says("Of one of the DEAD and a VAULT WISHES (what 0), whether BARRED (1: 1, 0).");
        VaultLeases x = e.under("bars if dead = 2 and vault = 0");
        x.wish(2, 1, 9);
        e.due("WISHES", x.asks(2, 1, 0), 9);
        e.due("for the other", x.asks(2, 0, 0), 0);
        e.due("BARRED", x.asks(2, 0, 1), 1);
        e.due("not where it lies", x.asks(2, 1, 1), 0);
        e.due("another is not", x.asks(1, 0, 1), 0);
        e.says("NONE.");
        for (int none : new int[] {3, -1, LEAST, MOST}) {
            e.due("DEAD " + none, x.asks(none, 0, 0), NONE);
            e.due("DEAD " + none, x.asks(none, 0, 1), NONE);
            e.due("VAULT " + none, x.asks(0, none == 3 ? 2 : none, 0), NONE);
            e.due("VAULT " + none, x.asks(0, none == 3 ? 2 : none, 1), NONE);
            e.due("what " + none, x.asks(0, 0, none == 3 ? 2 : none), NONE);
        }
    }

    private void promise9() {
        e.promise(9);
        e.says("WISHES of one of the DEAD for a VAULT: what they were.");
        VaultLeases x = Check.small();
        e.due("0 at first", x.wish(2, 1, 9), 0);
        e.due("what they were", x.wish(2, 1, 3), 9);
        e.due("where another lies", x.wish(2, 0, 1), 0);
        x.pass();
        e.due("of one who is OUT", x.wish(1, 0, 1), 0);
        e.says("-1; -2.");
        e.due("10", x.wish(2, 1, 10), -1);
        e.due("-1", x.wish(2, 1, -1), -1);
        for (int none : new int[] {3, -1, LEAST, MOST}) {
            e.due("DEAD " + none, x.wish(none, 1, 0), -2);
            e.due("VAULT " + none, x.wish(2, none == 3 ? 2 : none, 0), -2);
            e.due("both ways, -1 first", x.wish(none, none, 10), -1);
        }
        e.due("as they were", x.asks(2, 1, 0), 3);
    }

    private void promise10() {
        e.promise(10);
        e.says("A TERM: what it was.");
        VaultLeases x = new VaultLeases();
        e.due("YEAR", x.terms(0, 5), 0);
        e.due("DIES", x.terms(1, 6), 2);
        e.due("MOOD", x.terms(2, 7), 0);
        e.due("YEAR", x.terms(0, 5), 5);
        e.says("-1.");
        for (int what : new int[] {3, -1, LEAST, MOST}) {
            e.due("terms(" + what + ", 0)", x.terms(what, 0), -1);
        }
        for (int what = 0; what < 3; what++) {
            e.due("below 0", x.terms(what, -1), -1);
            e.due("too high", x.terms(what, what == 0 ? 1000 : what == 1 ? 11 : 10), -1);
            e.due("as it was", x.count(14 + what), 5 + what);
        }
    }
}
