/** Sentences about renewals, lodgings, knocks, years and undoing them: Terms III, its first part; promises 20 to 24. */
final class ActEdges {
    private static final int NONE = Edges.NONE;

    private final Edges e;

    ActEdges(Edges e) {
        this.e = e;
    }

    void run() {
        renewing();
        lodging();
        knocking();
        years();
        promise20();
        promise21();
        promise22();
        promise23();
        promise24();
        sixteenAreKept();
        nothingAhead();
    }

    private void renewing() {
        e.terms();
        e.says("III. To RENEW for one who is IN: the FAMILY pays what it is PRICED at (it must have that)");
        VaultLeases x = e.under("prices 30 if dead = 0;prices 8 if dead = 1");
        e.due("it has all of that", x.renew(0), 30);
        e.due("nothing is left", x.has(0, 0), 0);
        e.due("the other FAMILY pays nothing", x.has(1, 0), 7);
        e.due("it has nothing", x.renew(2), -3);
        e.due("it has one less", x.renew(1), -3);
        e.due("as it was", x.has(1, 0), 7);
        e.due("as it was", x.of(1, 2), 1);
        x.pass();
        e.due("one who is OUT", x.renew(1), -3);
        e.due("nothing is paid", x.has(1, 0), 17);
        e.says(", TERM is more by what it LASTS (99 at most; both asked ahead).");
        VaultLeases y = e.under("lasts 20");
        int[] due = {32, 52, 72, 92, 99, 99};
        for (int term : due) {
            e.due("renew", y.renew(2), 5);
            e.due("TERM", y.of(2, 2), term);
        }
        e.due("paid at 99, too", y.has(0, 0), 0);
        VaultLeases z = e.under("prices term + free;lasts means");
        e.due("PRICED by TERM ahead", z.renew(1), 1);
        e.due("it LASTS by MEANS ahead", z.of(1, 2), 8);
        e.due("PRICED by TERM now", z.of(1, 4), 8);
    }

    private void lodging() {
        e.says("To LODGE in another VAULT with a BED that is free, from which one is not BARRED");
        VaultLeases x = Check.small();
        e.due("not another", x.lodge(0, 0), -3);
        e.due("no BED is free", x.lodge(0, 1), -3);
        x.vault(1);
        e.due("one is", x.lodge(0, 2), 0);
        e.due("there", x.of(0, 1), 2);
        e.due("nowhere else", x.at(0, 2), 2);
        e.due("not another, though one is free", x.lodge(1, 0), -3);
        e.due("no BED is free", x.lodge(1, 2), -3);
        Check.law(x, "bars if vault = 0 and dead = 0;bars if free = 2");
        x.force(0);
        e.due("BARRED", x.lodge(0, 0), -3);
        e.due("another is not", x.lodge(2, 0), 0);
        x.vault(2);
        e.due("BARRED by what is free ahead", x.lodge(1, 3), -3);
        x.vault(3);
        e.due("not BARRED by what is free then", x.lodge(1, 4), 2);
        e.says(": one who was OUT has TERM 1 then.");
        VaultLeases y = Check.small();
        y.pass();
        e.due("one who is OUT, where it lay", y.lodge(1, 0), 0);
        e.due("TERM 1", y.of(1, 2), 1);
        e.due("IN", y.count(3), 3);
        y.vault(3);
        e.due("one who is IN", y.lodge(2, 2), 2);
        e.due("has TERM as it was", y.of(2, 2), 11);
    }

    private void knocking() {
        e.says("A KNOCK, once for each, of one who is IN: TERM is one more (99 at most).");
        VaultLeases x = Check.small();
        x.vault(2);
        x.dead(0, 2, 98);
        x.dead(0, 2, 99);
        e.due("one more", x.knock(0), 4);
        e.due("it is that", x.of(0, 2), 4);
        e.due("once", x.knock(0), -3);
        e.due("as it was", x.of(0, 2), 4);
        e.due("for each", x.knock(2), 13);
        e.due("to 99", x.knock(3), 99);
        e.due("99 at most", x.knock(4), 99);
        e.due("it KNOCKED", x.of(4, 3), 1);
        e.due("once", x.knock(4), -3);
        x.pass();
        e.due("one who is OUT", x.knock(1), -3);
        e.due("it did not", x.of(1, 3), 0);
        x.lodge(1, 0);
        e.due("IN again", x.knock(1), 2);
        x.pass();
        x.pass();
        x.lodge(1, 0);
        e.due("once, though OUT since", x.knock(1), -3);
    }

    private void years() {
        e.says("A YEAR: FAMILIES have what they EARN more (999 at most), all asked as it was ahead");
        VaultLeases x = e.under("earns year + means / 10;earns 20 if family > 1");
        x.family(978);
        x.family(979);
        x.terms(0, 4);
        x.pass();
        e.due("by YEAR and MEANS ahead", x.has(0, 0), 37);
        e.due("by YEAR and MEANS ahead", x.has(1, 0), 11);
        e.due("998", x.has(2, 0), 998);
        e.due("999", x.has(3, 0), 999);
        x.pass();
        e.due("999 at most", x.has(2, 0), 999);
        e.due("999 at most", x.has(3, 0), 999);
        e.due("by what it is since", x.has(0, 0), 37 + 5 + 3);
        e.says("; TERM of all who are IN is one less; those who have 0 then are OUT");
        VaultLeases y = Check.small();
        y.pass();
        e.due("one less", y.of(0, 2), 2);
        e.due("one less", y.of(2, 2), 11);
        e.due("0", y.of(1, 2), 0);
        e.due("OUT", y.of(1, 1), NONE);
        e.due("IN", y.of(0, 1), 0);
        e.due("its BED is free", y.at(0, 1), 1);
        y.pass();
        e.due("OUT ever on", y.of(1, 1), NONE);
        e.due("0 ever on", y.of(1, 2), 0);
        e.due("1 is IN yet", y.of(0, 1), 0);
        e.says("; it is the next YEAR (at 999 it can't be).");
        VaultLeases z = Check.small();
        e.due("from 0", z.pass(), 1);
        z.terms(0, 998);
        e.due("to 999", z.pass(), 999);
        e.due("at 999", z.pass(), -3);
        e.due("no YEAR", z.count(14), 999);
        e.due("nothing is earned", z.has(0, 0), 50);
        e.due("TERM is as it was", z.of(2, 2), 10);
    }

    private void promise20() {
        e.promise(20);
        e.says("To RENEW: what is paid.");
        VaultLeases x = e.under("prices 6 + dead");
        e.due("renew", x.renew(0), 6);
        e.due("renew", x.renew(2), 8);
        e.due("left", x.has(0, 0), 16);
        e.says("-2; -3.");
        for (int dead : new int[] {3, -1, 8, Edges.LEAST, Edges.MOST}) {
            e.due("renew(" + dead + ")", x.renew(dead), -2);
        }
        e.due("the FAMILY has that", x.renew(1), 7);
        e.due("the FAMILY has it not", x.renew(1), -3);
        x.undo();
        x.pass();
        e.due("OUT, though the FAMILY has it", x.renew(1), -3);
    }

    private void promise21() {
        e.promise(21);
        e.says("To LODGE: how many BEDS are free there then.");
        VaultLeases x = Check.small();
        x.vault(3);
        e.due("two", x.lodge(0, 2), 2);
        e.due("one", x.lodge(1, 2), 1);
        e.due("none", x.lodge(2, 2), 0);
        e.due("free", x.at(2, 1), 0);
        e.due("all three", x.at(2, 2), 7);
        e.says("-2; -3 (where it lies, too).");
        for (int none : new int[] {3, -1, 8, Edges.LEAST, Edges.MOST}) {
            e.due("lodge(" + none + ", 0)", x.lodge(none, 0), -2);
            e.due("lodge(0, " + none + ")", x.lodge(0, none), -2);
        }
        e.due("where it lies", x.lodge(0, 2), -3);
        x.lodge(1, 1);
        e.due("full", x.lodge(0, 1), -3);
        e.due("where it lies, a BED being free", x.lodge(0, 2), -3);
        x.pass();
        e.due("one who is OUT lies nowhere: NONE is no VAULT", x.lodge(1, NONE), -2);
    }

    private void promise22() {
        e.promise(22);
        e.says("A KNOCK: TERM then.");
        VaultLeases x = Check.small();
        e.due("knock", x.knock(1), 2);
        e.due("TERM", x.of(1, 2), 2);
        e.says("-2; -3.");
        for (int dead : new int[] {3, -1, 8, Edges.LEAST, Edges.MOST}) {
            e.due("knock(" + dead + ")", x.knock(dead), -2);
        }
        e.due("once", x.knock(1), -3);
        x.pass();
        x.pass();
        x.pass();
        e.due("OUT", x.knock(0), -3);
    }

    private void promise23() {
        e.promise(23);
        e.says("A YEAR: its number.");
        VaultLeases x = new VaultLeases();
        e.due("without anybody", x.pass(), 1);
        e.due("the next", x.pass(), 2);
        x.terms(0, 997);
        e.due("998", x.pass(), 998);
        e.due("999", x.pass(), 999);
        e.says("-3.");
        e.due("1000", x.pass(), -3);
        e.due("it is 999", x.count(14), 999);
        e.due("undo", x.undo(), 3);
        e.due("999 again", x.pass(), 999);
        e.due("1000", x.pass(), -3);
    }

    private void promise24() {
        e.promise(24);
        e.says("The latest renew(), lodge(), knock(), pass()");
        VaultLeases x = Check.small();
        x.vault(1);
        x.renew(0);
        e.due("renew", x.undo(), 0);
        e.due("MEANS", x.has(0, 0), 30);
        e.due("TERM", x.of(0, 2), 3);
        x.lodge(0, 2);
        e.due("lodge", x.undo(), 1);
        e.due("VAULT", x.of(0, 1), 0);
        e.due("free", x.at(2, 1), 1);
        x.knock(0);
        e.due("knock", x.undo(), 2);
        e.due("TERM", x.of(0, 2), 3);
        e.due("not KNOCKED", x.of(0, 3), 0);
        e.due("it can again", x.knock(0), 4);
        x.knock(2);
        x.pass();
        e.due("pass, behind KNOCKS", x.undo(), 3);
        e.due("it KNOCKED yet", x.of(0, 3), 1);
        e.due("it KNOCKED yet", x.of(2, 3), 1);
        e.due("another did not", x.of(1, 3), 0);
        e.due("the latest KNOCK", x.undo(), 2);
        e.due("it did not KNOCK", x.of(2, 3), 0);
        e.due("the one ahead of it did", x.of(0, 3), 1);
        e.due("that KNOCK", x.undo(), 2);
        x.pass();
        e.due("pass", x.undo(), 3);
        e.due("YEAR", x.count(14), 0);
        e.due("MEANS", x.has(1, 0), 7);
        e.due("IN", x.of(1, 1), 0);
        e.due("TERM", x.of(1, 2), 1);
        x.pass();
        x.lodge(1, 0);
        e.due("lodge of one who was OUT", x.undo(), 1);
        e.due("OUT", x.of(1, 1), NONE);
        e.due("TERM 0", x.of(1, 2), 0);
        e.due("the one ahead of it", x.undo(), 3);
        e.says("(by ORDERS, too");
        e.orders(x, "renew 2;knock 2;pass", 3);
        e.due("one by one", x.undo(), 3);
        e.due("one by one", x.undo(), 2);
        e.due("TERM", x.of(2, 2), 22);
        e.orders(x, "knock 0", 1);
        e.due("behind what was undone", x.undo(), 2);
        e.due("ahead of these ORDERS", x.undo(), 0);
        e.due("TERM", x.of(2, 2), 12);
        e.due("no more", x.undo(), -3);
    }

    private void sixteenAreKept() {
        e.says("; 16 are kept) is undone: 0 .. 3.");
        VaultLeases x = Check.small();
        for (int i = 1; i <= 20; i++) {
            x.pass();
            e.due("how many", x.count(6), Math.min(16, i));
        }
        for (int i = 19; i >= 4; i--) {
            e.due("undo", x.undo(), 3);
            e.due("YEAR", x.count(14), i);
        }
        e.due("the seventeenth", x.undo(), -3);
        e.due("YEAR", x.count(14), 4);
        for (int i = 0; i < 40; i++) {
            x.pass();
        }
        e.due("REFUSED, 16 being kept", x.knock(0), -3);
        for (int i = 43; i >= 28; i--) {
            e.due("undo", x.undo(), 3);
            e.due("YEAR", x.count(14), i);
        }
        e.due("no more", x.undo(), -3);
        e.orders(x, "pass times 20", 20);
        e.due("16 of 20", x.count(6), 16);
        e.orders(x, "pass times 20;knock 9", -3);
        for (int i = 47; i >= 32; i--) {
            e.due("undo", x.undo(), 3);
            e.due("YEAR", x.count(14), i);
        }
        e.due("no more", x.undo(), -3);
        VaultLeases y = Check.small();
        y.knock(0);
        y.renew(0);
        y.pass();
        y.pass();
        y.lodge(1, 0);
        int[] due = {1, 3, 3, 0, 2};
        for (int kind : due) {
            e.due("undo", y.undo(), kind);
        }
        e.due("as at first", y.of(0, 2), 3);
    }

    private void nothingAhead() {
        e.says("-3 there is none (nothing that was ahead of a vault(), family(), dead(), terms(), row() that was not REFUSED can be undone).");
        e.due("none yet", new VaultLeases().undo(), -3);
        for (int kind = 0; kind < 5; kind++) {
            VaultLeases x = Check.small();
            x.pass();
            x.pass();
            e.due("two", x.count(6), 2);
            e.due("one that is REFUSED leaves them", refused(x, kind) < 0 ? 1 : 0, 1);
            e.due("two", x.count(6), 2);
            e.due("one that is not", granted(x, kind) < 0 ? 1 : 0, 0);
            e.due("none", x.count(6), 0);
            e.due("undo", x.undo(), -3);
            e.due("as it was", x.count(14), kind == 3 ? 5 : 2);
            x.pass();
            e.due("one that came since", x.undo(), 3);
            e.due("no more", x.undo(), -3);
        }
        VaultLeases y = Check.small();
        y.pass();
        y.terms(0, 1);
        e.due("terms() that changes nothing", y.undo(), -3);
        y.pass();
        Check.row(y, 9, 9, 9);
        e.due("row() with DRAUGHTS alone", y.undo(), -3);
        y.pass();
        y.wish(0, 0, 5);
        Check.law(y, "prices 9");
        y.force(0);
        y.seen(1, 1);
        y.forget();
        y.centuries(1, 1);
        y.image(0);
        Check.orders(y, "knock 9");
        Check.orders(y, "?");
        e.due("others leave it", y.count(6), 1);
        e.due("undo", y.undo(), 3);
        e.due("what they did stays", y.asks(0, 0, 0), 5);
        e.due("what they did stays", y.count(13), 0);
    }

    private static int refused(VaultLeases x, int kind) {
        switch (kind) {
            case 0: return x.vault(0);
            case 1: return x.family(-1);
            case 2: return x.dead(0, 1, 1);
            case 3: return x.terms(0, 1000);
            default: return x.row();
        }
    }

    private static int granted(VaultLeases x, int kind) {
        switch (kind) {
            case 0: return x.vault(1);
            case 1: return x.family(1);
            case 2: return x.dead(0, 0, 1);
            case 3: return x.terms(0, 5);
            default: return Check.row(x, 0, 0, 1);
        }
    }
}
