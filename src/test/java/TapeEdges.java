/** Sentences about the TAPE and ROWS: a part of Terms IV, promises 11 to 14. */
final class TapeEdges {
    private static final int NONE = Edges.NONE;

    private final Edges e;

    TapeEdges(Edges e) {
        this.e = e;
    }

    void run() {
        promise11();
        promise12();
        rows();
        draughts();
        promise13();
        promise14();
    }

    /** Five VAULTS of three BEDS, four FAMILIES. */
    private static VaultLeases wide() {
        VaultLeases x = new VaultLeases();
        for (int i = 0; i < 5; i++) {
            x.vault(3);
            x.family(i);
        }
        return x;
    }

    private void promise11() {
        e.promise(11);
        e.says("Twenty bytes come behind the TAPE, four of each number, the highest first: how many it has.");
        VaultLeases x = wide();
        e.due("the first twenty", x.feed(0x00000100, 0x01020002, 0x03000304, 0x01000501, 0x0106FFFF), 20);
        e.due("row", x.row(), 6);
        e.due("a draught", x.draughts(), 1);
        int[][] due = {{0, 0, 1}, {0, 1, 2}, {0, 2, 3}, {0, 3, 4}, {1, 0, 5}, {1, 1, 6}};
        for (int d = 0; d < due.length; d++) {
            for (int what = 0; what < 3; what++) {
                e.due("of(" + d + ", " + what + ")", x.of(d, what), due[d][what]);
            }
        }
        VaultLeases y = wide();
        e.due("bytes are 0 .. 255", y.feed(0x00004F00, 0x00FF0000, 0x80FF0001, 0x00FF0100, 0x0063FFFF), 20);
        y.end(18);
        e.due("row", y.row(), 2);
        e.due("draughts", y.draughts(), 4);
        e.due("79", y.of(0, 2), 79);
        e.due("99", y.of(1, 2), 99);
        VaultLeases z = new VaultLeases();
        z.feed(1, 2, 3, 4, 5);
        e.due("behind what it has", z.feed(1, 2, 3, 4, 5), 40);
        z.end(7);
        e.due("behind what end() left", z.feed(1, 2, 3, 4, 5), 27);
        e.says("NONE, if there would be more than 400.");
        VaultLeases w = new VaultLeases();
        for (int i = 1; i <= 20; i++) {
            e.due("feed", w.feed(0, 0, 0, 0, 0), 20 * i);
        }
        e.due("420", w.feed(0, 0, 0, 0, 0), NONE);
        e.due("nothing came", w.count(7), 400);
        w.end(381);
        e.due("401", w.feed(0, 0, 0, 0, 0), NONE);
        e.due("nothing came", w.count(7), 381);
        w.end(380);
        e.due("400", w.feed(0, 0, 0, 0, 0), 400);
        e.due("it is not REFUSED", w.count(8), 0);
        e.due("status", w.status(), 0);
    }

    private void promise12() {
        e.promise(12);
        e.says("The TAPE has its first n bytes alone: n.");
        VaultLeases x = Check.small();
        Check.feed(x, Check.bytes("prices 8;prices 9?"));
        e.due("all of it", x.end(18), 18);
        e.due("less", x.end(17), 17);
        e.due("that many", x.count(7), 17);
        e.due("less", x.end(8), 8);
        e.due("law", x.law(), 0);
        x.force(0);
        e.due("the first bytes", x.of(0, 4), 8);
        x.feed(0, 0, 0, 0, 0);
        e.due("none", x.end(0), 0);
        e.due("none", x.count(7), 0);
        e.due("none of none", x.end(0), 0);
        // What end() cut off would go on with the last word, the last NUMBER.
        Check.feed(x, Check.bytes("barss"));
        x.end(4);
        e.due("a word at the end", x.law(), 1);
        Check.feed(x, Check.bytes("prices 67"));
        x.end(8);
        e.due("a NUMBER at the end", x.law(), 2);
        x.force(2);
        e.due("its first digit", x.of(0, 4), 6);
        e.says("NONE, if it has not so many, or n is below 0.");
        e.due("end(1) of none", x.end(1), NONE);
        x.feed(0, 0, 0, 0, 0);
        for (int n : new int[] {21, 400, -1, Edges.LEAST, Edges.MOST}) {
            e.due("end(" + n + ")", x.end(n), NONE);
        }
        e.due("as it was", x.count(7), 20);
        x.end(10);
        e.due("what was cut off is gone", x.end(11), NONE);
        e.due("it is not REFUSED", x.count(8), 0);
    }

    private void rows() {
        e.terms();
        e.says("A ROW: the TAPE's bytes by threes: FAMILY, VAULT, TERM 1 .. 99: one of the DEAD");
        VaultLeases x = wide();
        e.due("row", Check.row(x, 3, 4, 99, 0, 0, 1), 2);
        e.due("no draught", x.draughts(), 0);
        e.due("FAMILY", x.of(0, 0), 3);
        e.due("VAULT", x.of(0, 1), 4);
        e.due("TERM", x.of(0, 2), 99);
        e.due("FAMILY", x.of(1, 0), 0);
        e.due("VAULT", x.of(1, 1), 0);
        e.due("TERM", x.of(1, 2), 1);
        e.due("not KNOCKED", x.of(0, 3), 0);
        e.due("no WISHES", x.asks(0, 4, 0), 0);
    }

    private void draughts() {
        e.says("; one that can't be (no BED free, too), one within which the TAPE ends, one for whom there is no room is a DRAUGHT: nobody.");
        int[][] wrong = {{4, 0, 1}, {255, 0, 1}, {0, 5, 1}, {0, 255, 1}, {0, 0, 0}, {0, 0, 100}, {0, 0, 255}};
        for (int[] one : wrong) {
            VaultLeases x = wide();
            e.due("one that can't be", Check.row(x, one), 0);
            e.due("a draught", x.draughts(), 1);
            e.due("nobody", x.count(2), 0);
            e.due("status", x.status(), 0);
            e.due("one between two", Check.row(x, 0, 0, 1, one[0], one[1], one[2], 0, 1, 1), 2);
            e.due("a draught", x.draughts(), 1);
        }
        VaultLeases y = wide();
        e.due("no BED for the fourth", Check.row(y, 0, 0, 1, 0, 0, 2, 0, 0, 3, 0, 0, 4, 0, 1, 5), 4);
        e.due("a draught", y.draughts(), 1);
        e.due("the next one has its number", y.of(3, 2), 5);
        VaultLeases z = wide();
        e.due("one byte", Check.row(z, 0), 0);
        e.due("a draught", z.draughts(), 1);
        // The bytes that end() cut off lie where they lay, and would make one of the DEAD.
        for (int length = 4; length <= 5; length++) {
            z = wide();
            z.feed(0x00000700, 0x01080002, 0x09000000, 0, 0);
            z.end(length);
            e.due("the TAPE ends at " + length, z.row(), 1);
            e.due("a draught", z.draughts(), 1);
            e.due("nobody", z.count(2), 1);
        }
        VaultLeases w = wide();
        e.due("seven", Check.row(w, 0, 0, 1, 0, 0, 1, 0, 0, 1, 0, 1, 1, 0, 1, 1, 0, 1, 1, 0, 2, 1), 7);
        e.due("one more", Check.row(w, 0, 3, 1, 0, 3, 1, 0, 3, 1, 0), 1);
        e.due("no room for two, and one byte", w.draughts(), 3);
        e.due("eight", w.count(2), 8);
    }

    private void promise13() {
        e.promise(13);
        e.says("A ROW, the TAPE is empty then: how many DEAD came.");
        VaultLeases x = wide();
        e.due("two", Check.row(x, 0, 0, 1, 1, 1, 9), 2);
        e.due("the TAPE is empty", x.count(7), 0);
        e.due("none", Check.row(x, 9, 9, 9), 0);
        e.due("the TAPE is empty", x.count(7), 0);
        e.due("it is not REFUSED", x.status(), 0);
        x.end(0);
        for (int i = 0; i < 20; i++) {
            x.feed(0, 0, 0, 0, 0);
        }
        e.due("400 bytes", x.row(), 0);
        e.due("134 draughts", x.draughts(), 134);
        e.says("-6 the TAPE is empty.");
        e.due("empty", x.row(), -6);
        e.due("status", x.status(), -6);
        e.due("as it was", x.draughts(), 134);
        x.feed(0, 0, 0, 0, 0);
        x.end(0);
        e.due("empty by end()", x.row(), -6);
    }

    private void promise14() {
        e.promise(14);
        e.says("How many DRAUGHTS the latest row() had that was not REFUSED (0 ahead of any).");
        VaultLeases x = wide();
        e.due("ahead of any", x.draughts(), 0);
        e.due("REFUSED", x.row(), -6);
        e.due("ahead of any that was not", x.draughts(), 0);
        Check.row(x, 9, 9, 9, 9);
        e.due("two", x.draughts(), 2);
        e.due("REFUSED", x.row(), -6);
        e.due("two yet", x.draughts(), 2);
        x.image(0);
        Check.row(x, 0, 0, 1, 9);
        e.due("one", x.draughts(), 1);
        x.back(0);
        e.due("an IMAGE does not keep it", x.draughts(), 1);
        Check.row(x, 0, 0, 1);
        e.due("none", x.draughts(), 0);
    }
}
