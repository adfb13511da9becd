/** Sentences about BEDS for all: a part of Terms III; promises 33 to 35. */
final class BedEdges {
    private static final int NONE = Edges.NONE;
    private static final int NO_BED = 100;

    private final Edges e;

    BedEdges(Edges e) {
        this.e = e;
    }

    void run() {
        rooms();
        mostWishes();
        theFirstRow();
        packed();
        theLowestVaults();
        changes();
        promise33();
        promise34();
        promise35();
    }

    /** VAULTS with these BEDS, and so many DEAD in the first BEDS there are, no more than there are BEDS. */
    private static VaultLeases filled(int dead, int term, int... beds) {
        VaultLeases x = new VaultLeases();
        x.family(0);
        for (int one : beds) {
            x.vault(one);
        }
        for (int v = 0; v < beds.length; v++) {
            for (int b = 0; b < beds[v] && x.count(2) < dead; b++) {
                x.dead(0, v, term);
            }
        }
        return x;
    }

    private static VaultLeases in(int dead, int... beds) {
        return filled(dead, 9, beds);
    }

    /** VAULTS with these BEDS, and so many DEAD, who all are OUT. */
    private static VaultLeases out(int dead, int... beds) {
        VaultLeases x = filled(dead, 1, beds);
        // Where there are more of them than BEDS, BEDS are used again.
        for (int i = x.count(2); i < dead; i++) {
            x.pass();
            x.dead(0, 0, 1);
        }
        x.pass();
        return x;
    }

    private static VaultLeases under(VaultLeases x, String law) {
        Check.law(x, law);
        x.force(x.count(5) - 1);
        return x;
    }

    private void rooms(VaultLeases x, int lodged, int wishes, int... row) {
        e.due("rooms(0)", x.rooms(0), lodged);
        e.due("rooms(1)", x.rooms(1), wishes);
        for (int d = 0; d < row.length; d++) {
            e.due("rooms(" + (2 + d) + ")", x.rooms(2 + d), row[d]);
        }
        e.due("no more of them", x.rooms(2 + row.length), NONE);
    }

    private void rooms() {
        e.terms();
        e.says("ROOMS: all who are OUT to BEDS that are free (none BARRED): the most who can be LODGED");
        rooms(out(3, 3), 3, 0, 0, 0, 0);
        rooms(out(3, 2), 2, 0, 0, 0, NO_BED);
        rooms(out(1, 1, 1), 1, 0, 0);
        VaultLeases x = out(3, 2, 1);
        x.lodge(1, 1);
        rooms(x, 2, 0, 0, NONE, 0);
        x.lodge(2, 0);
        rooms(x, 1, 0, 0, NONE, NONE);
        x.lodge(0, 0);
        rooms(x, 0, 0, NONE, NONE, NONE);
        VaultLeases full = out(2, 1);
        full.lodge(1, 0);
        rooms(full, 0, 0, NO_BED, NONE);
        rooms(under(out(2, 1, 1), "bars"), 0, 0, NO_BED, NO_BED);
        rooms(under(out(8, 3, 3, 3, 3, 3), "bars"), 0, 0, NO_BED, NO_BED, NO_BED, NO_BED, NO_BED, NO_BED, NO_BED, NO_BED);
        rooms(under(out(2, 1, 1), "bars if dead = 0"), 1, 0, NO_BED, 0);
        rooms(under(out(2, 1, 1), "bars if dead = 1 and vault = 1"), 2, 0, 1, 0);
        rooms(under(out(3, 1, 1, 1), "bars if dead = 2 and vault > 0;bars if dead = 1 and vault > 1"), 3, 0, 2, 1, 0);
        rooms(under(out(2, 1, 1), "bars if free = 1"), 0, 0, NO_BED, NO_BED);
        rooms(under(out(3, 3), "bars if free = 1"), 3, 0, 0, 0, 0);
        rooms(out(8, 3, 3, 3), 8, 0, 0, 0, 0, 1, 1, 1, 2, 2);
        rooms(out(8, 1, 1, 1, 1, 1), 5, 0, 0, 1, 2, 3, 4, NO_BED, NO_BED, NO_BED);
        rooms(out(8, 3, 3, 3, 3, 3), 8, 0, 0, 0, 0, 1, 1, 1, 2, 2);
    }

    private void mostWishes() {
        e.says(", then the most WISHES together");
        VaultLeases x = out(2, 1, 1);
        x.wish(0, 1, 1);
        rooms(x, 2, 1, 1, 0);
        x.wish(1, 1, 2);
        rooms(x, 2, 2, 0, 1);
        x.wish(0, 0, 9);
        rooms(x, 2, 11, 0, 1);
        x.wish(1, 0, 9);
        x.wish(0, 1, 3);
        rooms(x, 2, 12, 1, 0);
        VaultLeases y = under(out(2, 1, 1), "bars if dead = 1 and vault = 1");
        y.wish(0, 0, 9);
        rooms(y, 2, 0, 1, 0);
        VaultLeases z = out(2, 1);
        z.wish(1, 0, 1);
        rooms(z, 1, 1, NO_BED, 0);
        VaultLeases w = out(8, 2, 2, 2, 2, 2);
        w.wish(0, 4, 1);
        rooms(w, 8, 1, 4, 0, 0, 1, 1, 2, 2, 3);
        VaultLeases v = out(8, 3, 3, 3, 3, 3);
        for (int d = 0; d < 8; d++) {
            v.wish(d, 4 - d / 2, 9);
        }
        rooms(v, 8, 72, 4, 4, 3, 3, 2, 2, 1, 1);
        VaultLeases again = out(2, 2, 1);
        again.wish(0, 1, 8);
        again.wish(1, 1, 8);
        rooms(again, 2, 8, 0, 1);
        again.wish(1, 0, 8);
        rooms(again, 2, 16, 1, 0);
        again.wish(0, 1, 0);
        again.wish(1, 0, 0);
        rooms(again, 2, 8, 0, 1);
        // The eighth can lie nowhere but where the seven would rather lie.
        VaultLeases u = under(out(8, 3, 3, 2), "bars if dead = 7 and vault > 0");
        for (int d = 0; d < 7; d++) {
            u.wish(d, 0, 9);
        }
        rooms(u, 8, 18, 0, 0, 1, 1, 1, 2, 2, 0);
        VaultLeases t = out(3, 1, 1, 1);
        t.wish(0, 0, 5);
        t.wish(0, 1, 4);
        t.wish(1, 0, 5);
        t.wish(1, 1, 3);
        t.wish(2, 1, 5);
        t.wish(2, 2, 2);
        rooms(t, 3, 11, 1, 0, 2);
    }

    private void theFirstRow() {
        e.says("; the first as a row of VAULTS by DEAD (100: none, behind all).");
        rooms(out(2, 1), 1, 0, 0, NO_BED);
        rooms(out(3, 1, 1), 2, 0, 0, 1, NO_BED);
        VaultLeases x = out(2, 1, 1);
        x.wish(0, 0, 4);
        x.wish(0, 1, 5);
        x.wish(1, 0, 5);
        x.wish(1, 1, 6);
        rooms(x, 2, 10, 0, 1);
        VaultLeases y = under(out(3, 1, 1), "bars if dead = 0 and vault = 0");
        rooms(y, 2, 0, 1, 0, NO_BED);
        VaultLeases z = under(out(3, 1, 1), "bars if dead = 1");
        rooms(z, 2, 0, 0, NO_BED, 1);
        VaultLeases w = out(4, 2, 2);
        w.wish(3, 0, 1);
        rooms(w, 4, 1, 0, 1, 1, 0);
        VaultLeases v = out(8, 1, 1, 1, 3, 2);
        v.wish(7, 0, 1);
        v.wish(6, 1, 1);
        rooms(v, 8, 2, 2, 3, 3, 3, 4, 4, 1, 0);
        VaultLeases u = out(3, 1, 1);
        u.wish(1, 0, 3);
        u.wish(2, 1, 3);
        u.wish(0, 0, 3);
        rooms(u, 2, 6, 0, NO_BED, 1);
        u.wish(0, 1, 4);
        rooms(u, 2, 7, 1, 0, NO_BED);
    }

    private void packed(VaultLeases x, int many, int which) {
        e.due("packed(0)", x.packed(0), many);
        e.due("packed(1)", x.packed(1), which);
    }

    private void packed() {
        e.says("PACKED: the fewest VAULTS in which all who are IN could lie (BARRED from none, as many as there are BEDS)");
        packed(in(1, 1), 1, 1);
        packed(in(3, 1, 1, 3), 1, 4);
        packed(in(3, 3), 1, 1);
        packed(in(4, 3, 1), 2, 3);
        packed(in(8, 3, 2, 1, 1, 1), 5, 31);
        packed(in(7, 3, 2, 1, 1, 1), 4, 15);
        packed(out(3, 3), 0, 0);
        packed(under(in(1, 1), "bars"), NONE, NONE);
        packed(under(out(1, 1), "bars"), 0, 0);
        packed(under(in(1, 1, 1), "bars if vault = 0"), 1, 2);
        packed(under(in(2, 3, 1), "bars if vault = 0"), NONE, NONE);
        packed(under(in(3, 3, 3), "bars if dead = 1 and vault = 0;bars if dead = 2 and vault = 1"), 2, 3);
        packed(under(in(3, 3, 3, 1), "bars if dead < 2 and vault < 2"), NONE, NONE);
        packed(under(in(3, 1, 1, 1), "bars if free = 0"), NONE, NONE);
        packed(under(in(2, 1, 1, 3), "bars if free = 0"), 1, 4);
        packed(under(in(4, 2, 2, 2), "bars if dead < 2 and vault > 0;bars if dead > 1 and vault = 0"), 2, 3);
        VaultLeases x = in(3, 1, 1, 1);
        x.pass();
        packed(x, 3, 7);
    }

    private void theLowestVaults() {
        e.says("; the lowest as bits.");
        packed(in(1, 1, 1, 1, 1, 1), 1, 1);
        packed(in(2, 1, 2, 2), 1, 2);
        packed(in(2, 1, 1, 1, 1, 1), 2, 3);
        packed(in(4, 1, 2, 3, 3, 1), 2, 5);
        packed(in(6, 1, 2, 3, 3, 3), 2, 12);
        packed(in(3, 1, 2, 1, 1, 1), 2, 3);
        packed(under(in(2, 1, 1, 1, 1, 1), "bars if vault < 2 and dead = 0"), 2, 5);
        packed(under(in(2, 1, 1, 1, 1, 1), "bars if vault < 3"), 2, 24);
        packed(under(in(1, 1, 1, 1, 1, 1), "bars if vault < 4"), 1, 16);
    }

    private void changes(VaultLeases x, int... twos) {
        e.due("changes(NONE)", x.changes(NONE), twos.length);
        for (int i = 0; i < twos.length; i++) {
            e.due("changes(" + i + ")", x.changes(i), twos[i]);
        }
        e.due("no more", x.changes(twos.length), NONE);
    }

    /** Each WISHES for its own VAULT 3, for all others 4. */
    private static VaultLeases restless(VaultLeases x) {
        for (int d = 0; d < x.count(2); d++) {
            for (int v = 0; v < x.count(0); v++) {
                x.wish(d, v, x.of(d, 1) == v ? 3 : 4);
            }
        }
        return x;
    }

    private void changes() {
        e.says("CHANGES: twos of DEAD in unlike VAULTS each of whom WISHES more for the other's, neither BARRED from that (\"bars\" asked as now)");
        changes(in(2, 1, 1));
        changes(restless(in(2, 1, 1)), 1);
        changes(restless(in(2, 2, 1)));
        VaultLeases x = restless(in(2, 1, 1));
        x.wish(0, 1, 3);
        changes(x);
        x.wish(0, 1, 4);
        x.wish(1, 0, 3);
        changes(x);
        x.wish(1, 0, 2);
        changes(x);
        x.wish(1, 0, 9);
        changes(x, 1);
        changes(under(x, "bars if dead = 0 and vault = 1"));
        changes(under(x, "bars if dead = 1 and vault = 0"));
        changes(under(x, "bars if dead = vault"), 1);
        changes(under(x, "bars if free = 0"));
        changes(under(x, "bars if free = 1"), 1);
        VaultLeases y = restless(in(3, 1, 1, 1));
        y.renew(0);
        for (int i = 0; i < 9; i++) {
            y.pass();
        }
        changes(y);
        y.lodge(0, 0);
        y.lodge(2, 2);
        changes(y, 2);
        e.says("; by the lower, then the higher one.");
        changes(restless(in(4, 1, 1, 1, 1)), 1, 2, 3, 12, 13, 23);
        changes(restless(in(4, 2, 2)), 2, 3, 12, 13);
        changes(restless(in(8, 3, 3, 2)), 3, 4, 5, 6, 7, 13, 14, 15, 16, 17, 23, 24, 25, 26, 27, 36, 37, 46, 47, 56, 57);
    }

    private void promise33() {
        e.promise(33);
        e.says("ROOMS: how many (what 0), WISHES together (1), the VAULT of one of the DEAD (2 + it; 100: none; NONE: it is IN).");
        VaultLeases x = out(8, 1, 1, 1, 1, 1);
        x.wish(7, 4, 9);
        x.lodge(0, 0);
        rooms(x, 4, 9, NONE, 1, 2, 3, NO_BED, NO_BED, NO_BED, 4);
        e.due("nobody was LODGED", x.count(3), 1);
        rooms(in(3, 3), 0, 0, NONE, NONE, NONE);
        e.says("NONE.");
        for (int what : new int[] {10, -1, Edges.LEAST, Edges.MOST}) {
            e.due("rooms(" + what + ")", x.rooms(what), NONE);
        }
        VaultLeases y = new VaultLeases();
        e.due("nobody", y.rooms(0), 0);
        e.due("nobody", y.rooms(1), 0);
        e.due("DEAD 0", y.rooms(2), NONE);
    }

    private void promise34() {
        e.promise(34);
        e.says("PACKED: how many VAULTS (what 0), which, as bits (1).");
        packed(in(5, 2, 2, 2, 2, 2), 3, 7);
        packed(new VaultLeases(), 0, 0);
        packed(out(0, 1, 1), 0, 0);
        e.says("NONE (it can't be).");
        VaultLeases x = in(2, 2);
        packed(under(x, "bars if dead = 1"), NONE, NONE);
        x.force(NONE);
        packed(x, 1, 1);
        for (int what : new int[] {2, -1, Edges.LEAST, Edges.MOST}) {
            e.due("packed(" + what + ")", x.packed(what), NONE);
        }
    }

    private void promise35() {
        e.promise(35);
        e.says("CHANGES: how many twos (i NONE), the i-th as ten times the lower and the higher one.");
        changes(restless(in(3, 1, 1, 1)), 1, 2, 12);
        changes(new VaultLeases());
        VaultLeases x = in(8, 2, 2, 2, 2);
        x.wish(6, 0, 1);
        x.wish(1, 3, 1);
        changes(x, 16);
        e.says("NONE.");
        for (int i : new int[] {1, 28, -2, Edges.LEAST, Edges.MOST}) {
            e.due("changes(" + i + ")", x.changes(i), NONE);
        }
    }
}
