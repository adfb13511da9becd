/** Sentences about TERMS to come, means and strangers: Terms III, its second part; promises 25 to 32, 36, 37. */
final class QuestionEdges {
    private static final int NONE = Edges.NONE;

    private final Edges e;

    QuestionEdges(Edges e) {
        this.e = e;
    }

    void run() {
        onPaper();
        insideAndEmpty();
        kept();
        theBestKept();
        bill();
        when();
        strangers();
        looking();
        few();
        compared();
        promises25And26();
        promise27();
        promise28();
        promises29To31();
        promise32();
        promises36And37();
    }

    /** A FAMILY with MEANS, and its DEAD with these TERMS, three in a VAULT. */
    private static VaultLeases family(int means, int... terms) {
        VaultLeases x = new VaultLeases();
        x.family(means);
        for (int i = 0; i < terms.length; i++) {
            if (i % 3 == 0) {
                x.vault(3);
            }
            x.dead(0, i / 3, terms[i]);
        }
        return x;
    }

    private void onPaper() {
        e.terms();
        e.says("(On paper, nothing else being done:)");
        VaultLeases x = e.under("prices 5 + year;lasts 3;bars if dead = 1 and vault = 1");
        x.wish(0, 1, 5);
        x.wish(2, 0, 5);
        x.seen(1, 0);
        x.pass();
        StringBuilder twice = new StringBuilder();
        StringBuilder once = new StringBuilder();
        for (int i = 0; i < 2; i++) {
            StringBuilder all = i == 0 ? once : twice;
            for (int what = 0; what < 17; what++) {
                all.append(x.count(what)).append(' ').append(x.of(what % 3, what % 6)).append(' ').append(x.has(what % 2, what % 4)).append(' ');
            }
            for (int what = 0; what < 5; what++) {
                all.append(x.keep(0, 20, what)).append(' ').append(x.when(2, what)).append(' ').append(x.look(what)).append(' ');
                all.append(x.rooms(what)).append(' ').append(x.packed(what)).append(' ').append(x.changes(what - 1)).append(' ');
                all.append(x.inside(what)).append(' ').append(x.few(2, what)).append(' ').append(x.compare(what - 1)).append(' ');
            }
            all.append(x.empty()).append(' ').append(x.stranger()).append(' ').append(x.status());
        }
        e.due("asked again, all is as it was", once.toString().equals(twice.toString()) ? 1 : 0, 1);
    }

    private void insideAndEmpty() {
        e.says("IN n YEARS on: all whose TERM is more than n.");
        VaultLeases x = family(0, 1, 2, 99, 98, 50);
        e.due("now", x.inside(0), 31);
        e.due("TERM 1 is not more than 1", x.inside(1), 30);
        e.due("TERM 2 is not more than 2", x.inside(2), 28);
        e.due("49", x.inside(49), 28);
        e.due("50", x.inside(50), 12);
        e.due("97", x.inside(97), 12);
        e.due("98", x.inside(98), 4);
        e.due("99", x.inside(99), 0);
        x.pass();
        e.due("those who are OUT are not", x.inside(0), 30);
        e.due("it is as it will be", x.inside(1), 28);
        e.says("EMPTY: in how many YEARS nobody is IN.");
        e.due("98 by now", x.empty(), 98);
        e.due("99", family(0, 99).empty(), 99);
        e.due("the first", family(0, 7, 3).empty(), 7);
        e.due("the last", family(0, 3, 7).empty(), 7);
        VaultLeases y = family(0, 2, 2);
        e.due("two", y.empty(), 2);
        y.pass();
        y.pass();
        e.due("OUT", y.empty(), 0);
        e.due("so it is", y.inside(0), 0);
    }

    private void kept(VaultLeases x, int n, int many, int much, int who) {
        e.due("keep(0, " + n + ", 0)", x.keep(0, n, 0), many);
        e.due("keep(0, " + n + ", 1)", x.keep(0, n, 1), much);
        e.due("keep(0, " + n + ", 2)", x.keep(0, n, 2), who);
    }

    private void kept() {
        e.says("KEPT by a FAMILY for n YEARS: of its DEAD who are IN those for whom together it can RENEW now (as PRICED now, as often as each needs so that TERM is n or more, as it LASTS now, 99 aside) out of MEANS");
        VaultLeases x = family(999, 10);
        kept(x, 9, 1, 0, 1);
        kept(x, 10, 1, 0, 1);
        kept(x, 11, 1, 5, 1);
        kept(x, 20, 1, 5, 1);
        kept(x, 21, 1, 10, 1);
        kept(x, 99, 1, 45, 1);
        kept(family(50, 1), 99, 1, 50, 1);
        kept(family(49, 1), 99, 0, 0, 0);
        kept(family(0, 1), 1, 1, 0, 1);
        kept(family(0, 1), 2, 0, 0, 0);
        kept(family(5, 1), 2, 1, 5, 1);
        kept(family(4, 1), 2, 0, 0, 0);
        kept(family(999, 95), 99, 1, 5, 1);
        VaultLeases y = family(98, 1);
        Check.law(y, "prices 1;lasts 1");
        y.force(0);
        kept(y, 99, 1, 98, 1);
        Check.law(y, "prices 1;prices 50 if term > 5;lasts 1;lasts 20 if term > 5");
        y.force(1);
        kept(y, 99, 1, 98, 1);
        VaultLeases more = family(0, 5, 9);
        Check.law(more, "prices 7;lasts 1");
        more.force(0);
        kept(more, 3, 2, 0, 3);
        kept(more, 5, 2, 0, 3);
        kept(more, 6, 1, 0, 2);
        VaultLeases z = Check.small();
        kept(z, 10, 2, 5, 5);
        e.due("the other FAMILY has another", z.keep(1, 10, 2), 2);
        z.pass();
        e.due("OUT", z.keep(1, 1, 0), 0);
        e.due("OUT", z.keep(1, 1, 2), 0);
        z.family(999);
        e.due("without DEAD", z.keep(2, 99, 0), 0);
        e.due("without DEAD", z.keep(2, 99, 1), 0);
        e.due("without DEAD", z.keep(2, 99, 2), 0);
    }

    private void theBestKept() {
        e.says(": the most, then the cheapest, then the lowest bits.");
        VaultLeases x = family(10, 1, 10, 10);
        kept(x, 20, 2, 10, 6);
        VaultLeases y = family(15, 1, 10, 10);
        kept(y, 20, 2, 10, 6);
        VaultLeases z = family(20, 1, 10, 10);
        kept(z, 20, 3, 20, 7);
        VaultLeases w = family(10, 10, 10, 10, 10);
        kept(w, 20, 2, 10, 3);
        VaultLeases v = family(7, 10, 10, 10, 10, 10, 10, 10, 10);
        Check.law(v, "prices 7;prices 3 if dead = 7;prices 4 if dead = 6;prices 4 if dead = 2");
        v.force(0);
        kept(v, 20, 2, 7, 132);
        kept(v, 10, 8, 0, 255);
        VaultLeases u = family(3, 10, 10, 10, 10, 10, 10, 10, 10);
        Check.law(u, "prices 4;prices 3 if dead = 7");
        u.force(0);
        kept(u, 20, 1, 3, 128);
        VaultLeases t = family(0, 10, 9, 10, 9, 10, 9, 9, 10);
        kept(t, 10, 4, 0, 149);
    }

    private void bill() {
        e.says("The BILL of a FAMILY: what a renewal for each of its DEAD who are IN is PRICED at, together.");
        VaultLeases x = e.under("prices 10 + dead");
        e.due("two", x.has(0, 3), 22);
        e.due("one", x.has(1, 3), 11);
        x.pass();
        e.due("OUT", x.has(1, 3), 0);
        e.due("two", x.has(0, 3), 22);
        VaultLeases y = family(0, 9, 9, 9, 9, 9, 9, 9, 9);
        Check.law(y, "prices 100");
        y.force(0);
        e.due("eight", y.has(0, 3), 792);
    }

    private void when(VaultLeases x, String law, int dead, int year, int price) {
        Check.law(x, law);
        x.force(x.count(5) - 1);
        e.due(law + ": when", x.when(dead, 0), year);
        e.due(law + ": PRICED at", x.when(dead, 1), price);
    }

    private void when() {
        e.says("WHEN to RENEW: of the YEARS 0 .. TERM less 1 from now that in which it is PRICED least (asked with that YEAR, beyond 999, too, and TERM less so many, all else as now); the first.");
        VaultLeases x = Check.small();
        when(x, "prices 10 + term", 0, 2, 11);
        when(x, "prices 20 - year", 0, 2, 18);
        when(x, "prices 10 + year", 0, 0, 10);
        when(x, "prices 20 - year", 1, 0, 20);
        when(x, "prices 60 - 10 * term", 0, 0, 30);
        when(x, "prices 9;prices 8 if year = 4 or year = 7", 2, 4, 8);
        x = Check.small();
        when(x, "prices 9;prices 8 if year = 1", 2, 1, 8);
        when(x, "prices 9;prices 8 if year > 0", 2, 1, 8);
        x = Check.small();
        when(x, "prices 20 - year % 12", 2, 11, 9);
        when(x, "prices 20 - year % 13", 2, 11, 9);
        when(x, "prices means;earns 99", 0, 0, 30);
        when(x, "prices 50 + free + vault + beds + dead + family", 2, 0, 54);
        when(x, "prices 9;prices 3 if free < 0", 2, 0, 9);
        when(x, "prices 9 if term > 4", 2, 8, 5);
        x.force(NONE);
        e.due("without a LAW", x.when(2, 0), 0);
        e.due("without a LAW", x.when(2, 1), 5);
        x = Check.small();
        x.terms(0, 999);
        when(x, "prices 1000 + 50 - year", 0, 2, 49);
        x.terms(0, 990);
        when(x, "prices 9;prices 2 if year > 999", 2, 10, 2);
        when(x, "prices 9;prices 2 if year = 1000 + 1", 2, 11, 2);
        when(x, "prices 9;prices 2 if year = 1000 + 2", 2, 0, 9);
        when(family(0, 99), "prices term", 0, 98, 1);
        when(family(0, 99), "prices 99 - term", 0, 0, 1);
    }

    private void strangers() {
        e.says("STRANGER: DEAD of whom all SEEN would be so, nothing being done (OUT now: OUT ever on).");
        VaultLeases x = family(0, 1, 5, 6, 99);
        e.due("nothing was SEEN", x.stranger(), 15);
        x.pass();
        e.due("one who is OUT can be", x.stranger(), 15);
        x.seen(0, 1);
        e.due("OUT now", x.stranger(), 1);
        x.seen(99, 1);
        e.due("OUT ever on", x.stranger(), 1);
        x.forget();
        x.seen(0, 0);
        e.due("IN now", x.stranger(), 14);
        x.seen(4, 1);
        e.due("TERM 4 is OUT in 4", x.stranger(), 2);
        x.forget();
        x.seen(4, 0);
        e.due("TERM 5 is IN in 4", x.stranger(), 12);
        x.seen(97, 0);
        e.due("TERM 98 is IN in 97", x.stranger(), 8);
        x.seen(98, 1);
        e.due("TERM 98 is OUT in 98", x.stranger(), 8);
        x.seen(4, 1);
        e.due("nobody can be both", x.stranger(), 0);
        VaultLeases y = family(0, 99);
        y.seen(98, 0);
        e.due("TERM 99", y.stranger(), 1);
        y.seen(99, 0);
        e.due("nobody is IN in 99", y.stranger(), 0);
    }

    private void look(VaultLeases x, int year, int left) {
        e.due("look(0)", x.look(0), year);
        e.due("look(1)", x.look(1), left);
    }

    private void looking() {
        e.says("To LOOK: in how many YEARS 0 .. 99 the more of both (strangers who are OUT then, who are IN) is least; the first.");
        look(family(0, 5), 0, 1);
        look(family(0, 5, 5), 0, 2);
        look(family(0, 5, 6), 5, 1);
        look(family(0, 98, 99), 98, 1);
        look(family(0, 1, 2, 3), 1, 2);
        look(family(0, 1, 2, 3, 4), 2, 2);
        look(family(0, 9, 9, 9, 4), 4, 3);
        look(family(0, 3, 3, 3, 9), 3, 3);
        look(family(0, 1, 2, 3, 4, 5, 6, 7, 8), 4, 4);
        VaultLeases x = family(0, 1, 1, 9, 9);
        x.pass();
        look(x, 0, 2);
        x.seen(0, 0);
        look(x, 0, 2);
        VaultLeases y = family(0, 5, 6, 7, 8);
        y.seen(6, 0);
        look(y, 7, 1);
    }

    private void few() {
        e.says("FEW: the chance, of 1,000,000,000,000 parts, that of n PEOPLE, each of whom dies in DIES of ten, fewer than k die");
        VaultLeases x = new VaultLeases();
        e.due("of nobody none", x.few(1, 0), 1000000000000L);
        e.due("of one none", x.few(1, 1), 800000000000L);
        e.due("of one one at most", x.few(2, 1), 1000000000000L);
        e.due("of two one at most", x.few(2, 2), 960000000000L);
        e.due("of three two at most", x.few(3, 3), 992000000000L);
        x.terms(1, 0);
        e.due("nobody dies", x.few(1, 99), 1000000000000L);
        x.terms(1, 10);
        e.due("all die", x.few(1, 1), 0);
        e.due("all die", x.few(1, 0), 1000000000000L);
        e.due("19 are fewer than 20", x.few(20, 19), 1000000000000L);
        e.due("20 are not", x.few(20, 20), 0);
        e.due("99 are not", x.few(20, 99), 0);
        e.says(": one by one, by how many did, each part times the rest by ten and times DIES by ten (one more), both cut; of those below k all together.");
        x.terms(1, 2);
        e.due("exact", x.few(1, 12), 68719476736L);
        e.due("cut", x.few(1, 13), 54975581388L);
        e.due("cut of what was cut", x.few(1, 14), 43980465110L);
        // Cut apart; cut together it would be one more.
        e.due("both cut", x.few(3, 13), 501652180170L);
        e.due("both cut", x.few(2, 14), 197912092997L);
        x.terms(1, 1);
        e.due("both cut", x.few(3, 13), 866117245206L);
        x.terms(1, 7);
        e.due("both cut", x.few(2, 13), 4995544L);
        e.due("both cut", x.few(3, 16), 2977393L);
    }

    private void compared() {
        e.says("COMPARED: what renewals for all who are IN are PRICED at together by a LAW in place of that in FORCE (NONE: none).");
        VaultLeases x = e.under("prices 10 + dead;earns 0");
        e.law(x, "prices 20;prices 99 if dead = 1", 1);
        e.due("that in FORCE", x.compare(0), 33);
        e.due("another", x.compare(1), 139);
        e.due("none", x.compare(NONE), 15);
        x.pass();
        e.due("one is OUT", x.compare(1), 40);
        e.due("that in FORCE is as it was", x.count(13), 0);
        x.force(NONE);
        e.due("none is in FORCE", x.compare(0), 22);
        x.terms(0, 0);
        for (int i = 0; i < 12; i++) {
            x.pass();
        }
        e.due("nobody is IN", x.compare(1), 0);
        VaultLeases y = family(0, 9, 9, 9, 9, 9, 9, 9, 9);
        e.law(y, "prices 1000", 0);
        e.due("eight", y.compare(0), 792);
    }

    private void promises25And26() {
        e.promise(25);
        e.says("IN n YEARS 0 .. 99 on, as bits.");
        VaultLeases x = family(0, 1, 2, 3, 4, 5, 6, 7, 99);
        e.due("all eight", x.inside(0), 255);
        e.due("the last", x.inside(98), 128);
        e.due("n 99", x.inside(99), 0);
        e.says("NONE.");
        for (int n : new int[] {-1, 100, Edges.LEAST, Edges.MOST}) {
            e.due("inside(" + n + ")", x.inside(n), NONE);
        }
        e.promise(26);
        e.says("EMPTY: in how many YEARS (0: now).");
        e.due("99", x.empty(), 99);
        e.due("without DEAD", new VaultLeases().empty(), 0);
        VaultLeases y = family(0, 1);
        e.due("next YEAR", y.empty(), 1);
        y.pass();
        e.due("now", y.empty(), 0);
        y.lodge(0, 0);
        e.due("IN again", y.empty(), 1);
    }

    private void promise27() {
        e.promise(27);
        e.says("KEPT for n YEARS 1 .. 99: how many (what 0), for how much (1), who, as bits (2).");
        VaultLeases x = family(10, 1, 12, 3);
        kept(x, 1, 3, 0, 7);
        kept(x, 10, 3, 10, 7);
        kept(x, 99, 0, 0, 0);
        e.due("nothing is paid", x.has(0, 0), 10);
        e.says("NONE.");
        for (int none : new int[] {-1, 100, Edges.LEAST, Edges.MOST}) {
            e.due("FAMILY " + none, x.keep(none, 1, 0), NONE);
            e.due("n " + none, x.keep(0, none, 0), NONE);
            e.due("what " + none, x.keep(0, 1, none), NONE);
        }
        e.due("FAMILY 1", x.keep(1, 1, 0), NONE);
        e.due("n 0", x.keep(0, 0, 0), NONE);
        e.due("what 3", x.keep(0, 1, 3), NONE);
    }

    private void promise28() {
        e.promise(28);
        e.says("WHEN to RENEW: in how many YEARS (what 0), what it is PRICED at then (1).");
        VaultLeases x = e.under("prices 10 + term % 4");
        e.due("when", x.when(2, 0), 0);
        e.due("PRICED at", x.when(2, 1), 10);
        e.due("when", x.when(0, 0), 2);
        e.due("PRICED at", x.when(0, 1), 11);
        e.says("NONE (OUT).");
        x.pass();
        e.due("OUT", x.when(1, 0), NONE);
        e.due("OUT", x.when(1, 1), NONE);
        for (int none : new int[] {3, -1, Edges.LEAST, Edges.MOST}) {
            e.due("DEAD " + none, x.when(none, 0), NONE);
            e.due("DEAD " + none, x.when(none, 1), NONE);
            e.due("what " + none, x.when(0, none == 3 ? 2 : none), NONE);
        }
    }

    private void promises29To31() {
        e.promise(29);
        e.says("SEEN: how often there was.");
        VaultLeases x = Check.small();
        for (int i = 1; i <= 8; i++) {
            e.due("seen", x.seen(i == 1 ? 0 : 99, i % 2), i);
        }
        e.says("-1; -5.");
        e.due("a ninth", x.seen(0, 0), -5);
        e.due("a ninth in 100 YEARS", x.seen(100, 0), -1);
        e.due("in 100 YEARS", Check.small().seen(100, 0), -1);
        e.due("YEARS ago", Check.small().seen(-1, 0), -1);
        e.due("neither OUT nor IN", Check.small().seen(0, 2), -1);
        e.due("neither OUT nor IN", Check.small().seen(0, -1), -1);
        e.promise(30);
        e.says("SEEN is nothing then: how often there was.");
        e.due("forget", x.forget(), 8);
        e.due("nothing", x.count(4), 0);
        e.due("again", x.forget(), 0);
        e.due("there is room", x.seen(0, 0), 1);
        e.due("what was forgotten counts no more", x.stranger(), 7);
        e.due("of a new one", new VaultLeases().forget(), 0);
        e.promise(31);
        e.says("STRANGER: who it can be, as bits.");
        VaultLeases y = family(0, 1, 2, 3, 4, 5, 6, 7, 8);
        e.due("all", y.stranger(), 255);
        y.seen(7, 0);
        e.due("the last", y.stranger(), 128);
        y.seen(8, 1);
        e.due("the last", y.stranger(), 128);
        e.due("without DEAD", new VaultLeases().stranger(), 0);
    }

    private void promise32() {
        e.promise(32);
        e.says("To LOOK: in how many YEARS (what 0), how many are left at most (1).");
        look(family(0, 1, 2, 3), 1, 2);
        look(family(0, 9), 0, 1);
        e.says("NONE (no strangers).");
        VaultLeases x = Check.small();
        for (int what : new int[] {2, -1, Edges.LEAST, Edges.MOST}) {
            e.due("what " + what, x.look(what), NONE);
        }
        x.seen(0, 1);
        look(x, NONE, NONE);
        x.forget();
        look(x, 1, 2);
        look(new VaultLeases(), NONE, NONE);
    }

    private void promises36And37() {
        e.promise(36);
        e.says("FEW, k 1 .. 20, n 0 .. 99.");
        VaultLeases x = new VaultLeases();
        e.due("few(1, 0)", x.few(1, 0), 1000000000000L);
        e.due("few(20, 0)", x.few(20, 0), 1000000000000L);
        e.due("few(1, 99)", x.few(1, 99) > 0 ? 1 : 0, 1);
        e.due("few(20, 99) is more", x.few(20, 99) > x.few(19, 99) ? 1 : 0, 1);
        e.due("asked again", x.few(1, 1), 800000000000L);
        e.says("NONE.");
        for (int none : new int[] {0, 21, -1, Edges.LEAST, Edges.MOST}) {
            e.due("k " + none, x.few(none, 1), NONE);
        }
        for (int none : new int[] {100, -1, Edges.LEAST, Edges.MOST}) {
            e.due("n " + none, x.few(1, none), NONE);
        }
        e.promise(37);
        e.says("COMPARED.");
        VaultLeases y = e.under("prices 7");
        e.due("three", y.compare(0), 21);
        e.due("by none", y.compare(NONE), 15);
        e.says("NONE (no such LAW).");
        for (int law : new int[] {1, 6, -2, Edges.LEAST, Edges.MOST}) {
            e.due("compare(" + law + ")", y.compare(law), NONE);
        }
        e.due("without LAWS", Check.small().compare(0), NONE);
        e.due("without LAWS and DEAD", new VaultLeases().compare(NONE), 0);
    }
}
