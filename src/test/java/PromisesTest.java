/** Promise by promise: ordinary inputs, the edges that the document names, wrong inputs. */
public final class PromisesTest {
    private static final int NONE = VaultLeases.NONE;
    private static final int NOTHING = VaultLeases.NOTHING;
    private static final Check c = new Check();

    public static void main(String[] args) {
        newObject();
        vaults();
        families();
        theDead();
        ofTheDead();
        asksAndWishes();
        terms();
        tape();
        rows();
        laws();
        lawWords();
        lawSums();
        lawBounds();
        broken();
        orders();
        ordersUndone();
        orderWords();
        faults();
        limitsOfTexts();
        force();
        renewals();
        lodgings();
        knocks();
        years();
        undoing();
        undoingLimits();
        insideAndEmpty();
        keeping();
        whenToRenew();
        strangers();
        looking();
        rooms();
        packed();
        changes();
        few();
        compared();
        centuries();
        images();
        imagesKeep();
        counts();
        statuses();
        c.finish("PromisesTest");
    }

    private static VaultLeases under(String law) {
        VaultLeases x = Check.small();
        c.due("law " + law, Check.law(x, law), 0);
        c.due("force", x.force(0), NONE);
        return x;
    }

    private static void newObject() {
        c.about("promise 1");
        VaultLeases x = new VaultLeases();
        int[] due = {0, 0, 0, 0, 0, 0, 0, 0, 0, 0, 0, 0, 0, NONE, 0, 2, 0};
        for (int i = 0; i < due.length; i++) {
            c.due("count(" + i + ")", x.count(i), due[i]);
        }
        c.due("status", x.status(), 0);
        c.due("fault", x.fault(), NONE);
        c.due("stopped", x.stopped(), NONE);
        c.due("draughts", x.draughts(), 0);
        c.due("drawn", x.drawn(0, 2), NOTHING);
        c.due("undo", x.undo(), -3);
        c.due("back", x.back(0), -2);
    }

    private static void vaults() {
        c.about("promise 2, 3");
        VaultLeases x = new VaultLeases();
        c.due("vault(0)", x.vault(0), -1);
        c.due("vault(4)", x.vault(4), -1);
        c.due("vault(-1)", x.vault(Integer.MIN_VALUE), -1);
        for (int i = 0; i < 5; i++) {
            c.due("vault", x.vault(1 + i % 3), i);
        }
        c.due("a sixth", x.vault(1), -5);
        c.due("-1 ahead of -5", x.vault(4), -1);
        c.due("count", x.count(0), 5);
        x.family(0);
        x.dead(0, 2, 5);
        x.dead(0, 4, 5);
        x.dead(0, 2, 1);
        c.due("beds", x.at(2, 0), 3);
        c.due("free", x.at(2, 1), 1);
        c.due("who", x.at(2, 2), 5);
        c.due("beds", x.at(4, 0), 2);
        c.due("nobody", x.at(0, 2), 0);
        c.due("what 3", x.at(0, 3), NONE);
        c.due("what -1", x.at(0, -1), NONE);
        c.due("vault 5", x.at(5, 0), NONE);
        c.due("vault -1", x.at(-1, 2), NONE);
        x.pass();
        c.due("one is OUT", x.at(2, 2), 1);
        c.due("its BED is free", x.at(2, 1), 2);
    }

    private static void families() {
        c.about("promise 4, 5");
        VaultLeases x = new VaultLeases();
        c.due("family(-1)", x.family(-1), -1);
        c.due("family(1000)", x.family(1000), -1);
        c.due("family(0)", x.family(0), 0);
        c.due("family(999)", x.family(999), 1);
        c.due("family", x.family(5), 2);
        c.due("family", x.family(6), 3);
        c.due("a fifth", x.family(6), -5);
        c.due("-1 ahead of -5", x.family(1000), -1);
        x.vault(3);
        x.dead(1, 0, 2);
        x.dead(2, 0, 1);
        x.dead(1, 0, 1);
        c.due("means", x.has(1, 0), 999);
        c.due("earns", x.has(1, 1), 10);
        c.due("its dead", x.has(1, 2), 5);
        c.due("bill", x.has(1, 3), 10);
        x.pass();
        c.due("its dead, OUT too", x.has(1, 2), 5);
        c.due("bill of those IN", x.has(1, 3), 5);
        c.due("999 at most", x.has(1, 0), 999);
        c.due("no dead", x.has(0, 2), 0);
        c.due("no bill", x.has(0, 3), 0);
        c.due("what 4", x.has(0, 4), NONE);
        c.due("what -1", x.has(0, -1), NONE);
        c.due("family 4", x.has(4, 0), NONE);
        c.due("family -1", x.has(-1, 0), NONE);
    }

    private static void theDead() {
        c.about("promise 6");
        VaultLeases x = new VaultLeases();
        x.vault(1);
        x.family(1);
        c.due("term 0", x.dead(0, 0, 0), -1);
        c.due("term 100", x.dead(0, 0, 100), -1);
        c.due("-1 ahead of -2", x.dead(7, 7, 100), -1);
        c.due("no family", x.dead(1, 0, 1), -2);
        c.due("no vault", x.dead(0, 1, 1), -2);
        c.due("OUT is no vault", x.dead(0, NONE, 1), -2);
        c.due("family -1", x.dead(-1, 0, 1), -2);
        c.due("one", x.dead(0, 0, 99), 0);
        c.due("no bed", x.dead(0, 0, 99), -3);
        x.vault(3);
        x.vault(3);
        x.vault(2);
        for (int i = 1; i < 8; i++) {
            c.due("dead", x.dead(0, 1 + (i - 1) / 3, 1), i);
        }
        c.due("-3 ahead of -5", x.dead(0, 0, 1), -3);
        c.due("a ninth", x.dead(0, 3, 1), -5);
        c.due("count", x.count(2), 8);
    }

    private static void ofTheDead() {
        c.about("promise 7");
        VaultLeases x = Check.small();
        int[] due = {0, 1, 12, 0, 5, 10};
        for (int i = 0; i < due.length; i++) {
            c.due("of(2, " + i + ")", x.of(2, i), due[i]);
        }
        c.due("of(2, 6)", x.of(2, 6), NOTHING);
        c.due("of(2, -1)", x.of(2, -1), NOTHING);
        c.due("of(3, 0)", x.of(3, 0), NOTHING);
        c.due("of(-1, 0)", x.of(-1, 0), NOTHING);
        x.knock(2);
        c.due("knocked", x.of(2, 3), 1);
        c.due("another did not", x.of(0, 3), 0);
        x.knock(1);
        x.pass();
        x.pass();
        c.due("OUT", x.of(1, 1), NONE);
        c.due("TERM of one OUT", x.of(1, 2), 0);
        c.due("still KNOCKED", x.of(1, 3), 1);
        c.due("priced, if OUT", x.of(1, 4), 5);
        c.due("lasts, if OUT", x.of(1, 5), 10);
    }

    private static void asksAndWishes() {
        c.about("promise 8, 9");
        VaultLeases x = under("bars if dead = 2 and vault = 0");
        c.due("at first", x.asks(0, 1, 0), 0);
        c.due("wish", x.wish(0, 1, 9), 0);
        c.due("wish again", x.wish(0, 1, 4), 9);
        c.due("asks", x.asks(0, 1, 0), 4);
        c.due("of another vault", x.asks(0, 0, 0), 0);
        c.due("of another dead", x.asks(1, 1, 0), 0);
        c.due("barred", x.asks(2, 0, 1), 1);
        c.due("not from that", x.asks(2, 1, 1), 0);
        c.due("not that one", x.asks(0, 0, 1), 0);
        c.due("what 2", x.asks(0, 0, 2), NONE);
        c.due("what -1", x.asks(0, 0, -1), NONE);
        c.due("dead 3", x.asks(3, 0, 0), NONE);
        c.due("dead -1", x.asks(-1, 0, 0), NONE);
        c.due("vault 2", x.asks(0, 2, 0), NONE);
        c.due("vault -1", x.asks(0, -1, 0), NONE);
        c.due("value 10", x.wish(0, 1, 10), -1);
        c.due("value -1", x.wish(9, 1, -1), -1);
        c.due("dead 3", x.wish(3, 1, 1), -2);
        c.due("vault 2", x.wish(0, 2, 1), -2);
        c.due("vault -1", x.wish(1, -1, 1), -2);
        c.due("as it was", x.asks(0, 1, 0), 4);
    }

    private static void terms() {
        c.about("promise 10");
        VaultLeases x = new VaultLeases();
        c.due("year", x.terms(0, 999), 0);
        c.due("dies", x.terms(1, 10), 2);
        c.due("mood", x.terms(2, 9), 0);
        c.due("year", x.terms(0, 0), 999);
        c.due("dies", x.terms(1, 0), 10);
        c.due("mood", x.terms(2, 0), 9);
        c.due("year 1000", x.terms(0, 1000), -1);
        c.due("dies 11", x.terms(1, 11), -1);
        c.due("mood 10", x.terms(2, 10), -1);
        c.due("below", x.terms(2, -1), -1);
        c.due("what 3", x.terms(3, 0), -1);
        c.due("what -1", x.terms(-1, 0), -1);
    }

    private static void tape() {
        c.about("promise 11, 12");
        VaultLeases x = new VaultLeases();
        for (int i = 1; i <= 20; i++) {
            c.due("feed", x.feed(0x20202020, 0x20202020, 0x20202020, 0x20202020, 0x20202020), 20 * i);
        }
        c.due("more than 400", x.feed(0, 0, 0, 0, 0), NONE);
        c.due("nothing came", x.count(7), 400);
        c.due("end(401)", x.end(401), NONE);
        c.due("end(-1)", x.end(-1), NONE);
        c.due("end(400)", x.end(400), 400);
        c.due("end(381)", x.end(381), 381);
        c.due("there would be 401", x.feed(0, 0, 0, 0, 0), NONE);
        c.due("end(380)", x.end(380), 380);
        c.due("there are 400", x.feed(0, 0, 0, 0, 0), 400);
        c.due("end(0)", x.end(0), 0);
        c.due("end(1)", x.end(1), NONE);
        c.due("not REFUSED", x.count(8), 0);
        c.due("status", x.status(), 0);
        // The highest byte first: FAMILY 0, VAULT 0, TERM 90; then a TERM of 255, of 128.
        x.vault(3);
        x.family(1);
        x.feed(0x00005A00, 0x00FF0000, 0x80000001, 0, 0);
        x.end(12);
        c.due("row", x.row(), 2);
        c.due("draughts", x.draughts(), 2);
        c.due("term", x.of(0, 2), 90);
        c.due("term", x.of(1, 2), 1);
    }

    private static void rows() {
        c.about("promise 13, 14");
        VaultLeases x = new VaultLeases();
        c.due("empty", x.row(), -6);
        c.due("no draughts yet", x.draughts(), 0);
        x.vault(1);
        x.vault(3);
        x.family(1);
        x.family(2);
        c.due("row", Check.row(x, 1, 1, 99, 0, 0, 1, 0, 0, 1), 2);
        c.due("no bed for the third", x.draughts(), 1);
        c.due("the tape is empty", x.count(7), 0);
        c.due("family", x.of(0, 0), 1);
        c.due("vault", x.of(0, 1), 1);
        c.due("term", x.of(0, 2), 99);
        c.due("family", x.of(1, 0), 0);
        c.due("nobody", Check.row(x, 2, 1, 1, 0, 2, 1, 0, 1, 0, 0, 1, 100, 255, 255, 255, 0, 1), 0);
        c.due("draughts", x.draughts(), 6);
        c.due("refused", x.row(), -6);
        c.due("of the latest that was not", x.draughts(), 6);
        c.due("row", Check.row(x, 0, 1, 5), 1);
        c.due("no draughts", x.draughts(), 0);
        c.due("one within which the tape ends", Check.row(x, 0), 0);
        c.due("a draught", x.draughts(), 1);
        // What end() cut off is not the TERM of the one within which the tape ends.
        x.feed(0x00010700, 0x01080000, 0, 0, 0);
        x.end(5);
        c.due("row", x.row(), 1);
        c.due("a draught", x.draughts(), 1);
        x.vault(3);
        x.vault(3);
        c.due("eight at most", Check.row(x, 0, 2, 1, 0, 2, 2, 0, 2, 3, 0, 3, 4, 0, 3, 5, 0, 3, 6), 4);
        c.due("draughts", x.draughts(), 2);
        c.due("count", x.count(2), 8);
    }

    private static void laws() {
        c.about("promise 15");
        VaultLeases x = Check.small();
        c.due("law", Check.law(x, "prices 7"), 0);
        c.due("the tape is empty", x.count(7), 0);
        c.due("fault", x.fault(), NONE);
        c.due("not in force", x.of(0, 4), 5);
        c.due("blanks alone", Check.law(x, "     "), -6);
        c.due("fault at the end", x.fault(), 5);
        c.due("the tape is empty", x.count(7), 0);
        c.due("an empty one", x.law(), -6);
        c.due("fault at the end", x.fault(), 0);
        for (int i = 1; i < 6; i++) {
            c.due("law", Check.law(x, "lasts " + i), i);
        }
        c.due("laws", x.count(5), 6);
        c.due("wrong", Check.orders(x, "pass pass"), -6);
        c.due("fault", x.fault(), 5);
        c.due("a seventh", Check.law(x, "lasts 6"), -5);
        c.due("the tape is empty", x.count(7), 0);
        c.due("a wrong seventh", Check.law(x, "??"), -5);
        c.due("it was not read", x.fault(), 5);
    }

    private static void lawWords() {
        c.about("promise 15: words");
        VaultLeases x = Check.small();
        x.terms(0, 17);
        x.terms(2, 8);
        x.pass();
        String[] words = {"dead", "family", "vault", "term", "means", "beds", "free", "year", "mood"};
        // Told with 50 more, so that -1 is seen; DEAD 1 is OUT, and VAULT 0 has one BED free.
        int[] ofTwo = {52, 50, 51, 61, 90, 51, 50, 68, 58};
        int[] ofOne = {51, 51, 49, 50, 67, 49, 49, 68, 58};
        int[] earned = {49, 50, 49, 49, 90, 49, 49, 68, 58};
        for (int i = 0; i < words.length; i++) {
            x.image(0);
            Check.law(x, "prices " + words[i] + " + 50;earns 50 + " + words[i] + ";bars if " + words[i] + " = 1");
            x.force(0);
            c.due(words[i] + " of 2", x.of(2, 4), ofTwo[i]);
            c.due(words[i] + " of 1", x.of(1, 4), ofOne[i]);
            c.due(words[i] + " of FAMILY 0", x.has(0, 1), earned[i]);
            // Asked of DEAD 2 (which lies in VAULT 1) and VAULT 0, then of DEAD 1 (OUT) and VAULT 1.
            c.due(words[i] + " bars 2 from 0", x.asks(2, 0, 1), words[i].equals("free") ? 1 : 0);
            boolean bars = words[i].equals("dead") || words[i].equals("family") || words[i].equals("vault")
                || words[i].equals("beds");
            c.due(words[i] + " bars 1 from 1", x.asks(1, 1, 1), bars ? 1 : 0);
            x.back(0);
        }
        VaultLeases y = under("lasts 10 + vault * 5 + term");
        c.due("lasts", y.of(2, 5), 20);
        c.due("lasts", y.of(0, 5), 13);
        y.pass();
        c.due("of one OUT", y.of(1, 5), 5);
    }

    private static int priced(String sum) {
        VaultLeases x = under("prices 1;prices " + sum);
        return x.of(0, 4);
    }

    private static void lawSums() {
        c.about("promise 15: sums");
        c.due("by precedence", priced("2+3*4-10/3%2"), 13);
        c.due("from the left", priced("50-20-10"), 20);
        c.due("from the left", priced("90/3/3"), 10);
        c.due("brackets", priced("[2+3]*[4+[5]]"), 45);
        c.due("cut towards 0", priced("[0-7]/2+10"), 7);
        c.due("what is left then", priced("[0-7]%2+10"), 9);
        c.due("what is left then", priced("7%[0-4]+10"), 13);
        c.due("any blanks", priced("   2   *   3  "), 6);
        c.due("none", priced("2*3if term=3and not family=1or 1=2"), 6);
        c.due("zeros ahead", priced("00000000000000007"), 7);
        c.due("not", priced("9 if not term = 4"), 9);
        c.due("not not", priced("9 if not not term = 4"), 1);
        c.due("not binds first", priced("9 if not term = 4 or term = 3"), 9);
        c.due("not of both", priced("9 if not (term = 4 or term = 3)"), 1);
        c.due("and ahead of or", priced("9 if 1 = 1 or 1 = 1 and 1 = 2"), 9);
        c.due("brackets first", priced("9 if (1 = 1 or 1 = 1) and 1 = 2"), 1);
        c.due("less", priced("9 if 2 < 2"), 1);
        c.due("less", priced("9 if 1 < 2"), 9);
        c.due("more", priced("9 if 2 > 2"), 1);
        c.due("more", priced("9 if 3 > 2"), 9);
        c.due("the last that holds", priced("8;prices 9;prices 7 if 1 = 2"), 9);
    }

    private static void lawBounds() {
        c.about("promise 15: bounds");
        VaultLeases x = under("prices 0;lasts 0;earns 0-1");
        c.due("prices", x.of(0, 4), 1);
        c.due("lasts", x.of(0, 5), 1);
        c.due("earns", x.has(0, 1), 0);
        x = under("prices 100;lasts 21;earns 100");
        c.due("prices", x.of(0, 4), 99);
        c.due("lasts", x.of(0, 5), 20);
        c.due("earns", x.has(0, 1), 99);
        x = under("prices 99;lasts 20;earns 0");
        c.due("prices", x.of(0, 4), 99);
        c.due("lasts", x.of(0, 5), 20);
        c.due("earns", x.has(0, 1), 0);
        x = under("bars");
        c.due("prices", x.of(0, 4), 5);
        c.due("lasts", x.of(0, 5), 10);
        c.due("earns", x.has(0, 1), 10);
        c.due("bars", x.asks(0, 0, 1), 1);
    }

    private static void broken() {
        c.about("promise 15: broken");
        c.due("by 0", priced("5/0"), 1);
        c.due("by 0", priced("5%[3-term]"), 1);
        c.due("not beyond", priced("1000*1000*1000/1000/1000/100"), 10);
        c.due("beyond", priced("[1000*1000*1000+1]/1000/1000/100"), 1);
        c.due("beyond", priced("[0-1000*1000*1000-1]/[0-100]/1000/1000"), 1);
        c.due("not beyond", priced("[0-1000*1000*1000]/[0-100]/1000/1000"), 10);
        c.due("on the way", priced("[1000*1000*1000+1-1]/1000/1000/100"), 1);
        c.due("in a test", priced("9 if 1/0 = 1"), 1);
        c.due("not of it", priced("9 if not 1/0 = 1"), 1);
        c.due("or asks no more", priced("9 if 1 = 1 or 1/0 = 1"), 9);
        c.due("or asks on", priced("9 if 1 = 2 or 1/0 = 1 or 1 = 1"), 1);
        c.due("or behind", priced("9 if 1/0 = 1 or 1 = 1"), 1);
        c.due("and asks no more", priced("9 if not (1 = 2 and 1/0 = 1)"), 9);
        c.due("and asks on", priced("9 if not (1 = 1 and 1/0 = 1)"), 1);
        c.due("both", priced("9 if 1 = 2 and 1/0 = 1 or 1 = 1"), 9);
        c.due("both", priced("9 if (1 = 1 or 1/0 = 1) and (1 = 2 or 1 = 1)"), 9);
        VaultLeases x = under("bars if 1/free = 1");
        c.due("bars broken", x.asks(0, 1, 1), 0);
        x.pass();
        c.due("bars", x.asks(0, 0, 1), 1);
    }

    private static void orders() {
        c.about("promise 16, 18");
        VaultLeases x = Check.small();
        c.due("orders", Check.orders(x, "renew 0;pass times 2;lodge 1 in 0;knock 2 if year = 2;pass if year = 9"), 5);
        c.due("the tape is empty", x.count(7), 0);
        c.due("fault", x.fault(), NONE);
        c.due("stopped", x.stopped(), NONE);
        c.due("year", x.count(14), 2);
        c.due("term", x.of(0, 2), 11);
        c.due("term", x.of(1, 2), 1);
        c.due("term", x.of(2, 2), 11);
        c.due("means", x.has(0, 0), 45);
        c.due("can be undone", x.count(6), 5);
        c.due("one can't be", Check.orders(x, "pass;pass;renew 1;pass"), -3);
        c.due("stopped", x.stopped(), 2);
        c.due("the tape is empty", x.count(7), 0);
        c.due("fault", x.fault(), NONE);
        c.due("as it was", x.count(14), 2);
        c.due("as it was", x.has(0, 0), 45);
        c.due("as it was", x.of(1, 1), 0);
        c.due("as it was", x.count(6), 5);
        c.due("wrong", Check.orders(x, "pass;renew"), -6);
        c.due("no clause of it was stopped", x.stopped(), NONE);
        c.due("as it was", x.count(14), 2);
        c.due("none run", Check.orders(x, "pass if 1 = 2"), 0);
        c.due("a broken if", Check.orders(x, "pass if 1/0 = 1"), 0);
        c.due("a broken sum", Check.orders(x, "pass;knock 1/0"), -3);
        c.due("stopped", x.stopped(), 1);
        c.due("a second sum", Check.orders(x, "lodge 0 in 1/0"), -3);
        c.due("no such", Check.orders(x, "knock 3"), -3);
        c.due("below 0", Check.orders(x, "knock 0 - 1"), -3);
        c.due("no such vault", Check.orders(x, "lodge 0 in 2"), -3);
        c.due("the if is asked first", Check.orders(x, "knock 1/0 if year = 9"), 0);
        x.terms(0, 990);
        c.due("to the last year", Check.orders(x, "pass times 9"), 9);
        c.due("999", x.count(14), 999);
        c.due("no year more", Check.orders(x, "pass"), -3);
        c.due("blanks", Check.orders(x, "  "), -6);
        c.due("fault", x.fault(), 2);
        c.due("empty", x.orders(), -6);
        c.due("fault", x.fault(), 0);
    }

    private static void ordersUndone() {
        c.about("promise 16: whole or not at all");
        VaultLeases x = Check.small();
        for (int i = 0; i < 15; i++) {
            x.pass();
        }
        x.knock(0);
        x.lodge(0, 0);
        c.due("16 can be undone", x.count(6), 16);
        c.due("many, then one that can't be", Check.orders(x, "pass times 20;knock 7"), -3);
        c.due("year", x.count(14), 15);
        c.due("16 can be undone yet", x.count(6), 16);
        c.due("lodge", x.undo(), 1);
        for (int i = 14; i >= 0; i--) {
            c.due("pass", x.undo(), 3);
            c.due("year", x.count(14), i);
        }
        c.due("all", x.undo(), -3);
        c.due("as at first", x.of(2, 2), 12);
        c.due("240", Check.orders(x, "pass times 20;pass times 20;pass times 20;pass times 20;pass times 20;"
            + "pass times 20;pass times 20;pass times 20;pass times 20;pass times 20;pass times 20;pass times 20"), 240);
        c.due("year", x.count(14), 240);
        c.due("16 are kept", x.count(6), 16);
        for (int i = 0; i < 16; i++) {
            x.undo();
        }
        c.due("year", x.count(14), 224);
        c.due("no more", x.undo(), -3);
    }

    private static void orderWords() {
        c.about("promise 16: words");
        VaultLeases x = Check.small();
        x.terms(0, 7);
        String[] tests = {"year = 7", "done = 0", "latest = 0-1", "inside = 3", "term 0 = 3", "term 2 = 12",
            "term 3 = 0-1", "term 7 = 0-1", "means 0 = 30", "means 1 = 7", "means 2 = 0-1", "means 3 = 0-1"};
        for (String test : tests) {
            c.due(test, Check.orders(x, "pass if not " + test), 0);
        }
        c.due("as it goes on", Check.orders(x, "pass if year = 7;renew 2;pass if done = 2 and latest = 5 and year = 8"
            + " and inside = 2 and term 1 = 0 and term 2 = 21 and means 0 = 35"), 3);
        Check.law(x, "prices 10 + dead");
        x.force(0);
        c.due("what the latest renew told", Check.orders(x, "renew 2;knock 2;renew 0;pass if latest = 10"), 4);
        c.due("of this text alone", Check.orders(x, "pass if latest = 0-1 and done = 0"), 1);
        c.due("each time anew", Check.orders(x, "pass times 20 if done < 3"), 3);
        c.due("a sum", Check.orders(x, "renew done + 2 * 1 if term7=0-1"), 1);
    }

    private static void faultAt(boolean orders, String text, int place) {
        VaultLeases x = Check.small();
        c.due(text, orders ? Check.orders(x, text) : Check.law(x, text), -6);
        c.due("fault of " + text, x.fault(), place);
        c.due("the tape is empty", x.count(7), 0);
        c.due("status", x.status(), -6);
    }

    private static void faults() {
        c.about("promise 17");
        faultAt(false, "prices 1 ;", 10);
        faultAt(false, "prices 1 ;  ", 12);
        faultAt(false, ";prices 1", 0);
        faultAt(false, "  Prices 1", 2);
        faultAt(false, "pricess 1", 0);
        faultAt(false, "price 1", 0);
        faultAt(false, "prices 1 2", 9);
        faultAt(false, "prices 1001", 7);
        faultAt(false, "prices 99999999999999999999999", 7);
        faultAt(false, "prices + 1", 7);
        faultAt(false, "prices -1", 7);
        faultAt(false, "prices (1)", 7);
        faultAt(false, "prices [1)", 9);
        faultAt(false, "prices 1 if (term) = 1", 17);
        faultAt(false, "prices 1 if [term = 1]", 18);
        faultAt(false, "prices 1 if term < = 1", 19);
        faultAt(false, "prices 1 if term = 1 = 2", 21);
        faultAt(false, "prices 1 if not", 15);
        faultAt(false, "prices 1 if term = 1 and", 24);
        faultAt(false, "prices 1 if term = 1 nor", 21);
        faultAt(false, "prices 1 if term = 1 if", 21);
        faultAt(false, "prices 1 times 2", 9);
        faultAt(false, "bars term", 5);
        faultAt(false, "renew 1", 0);
        faultAt(false, "prices done", 7);
        faultAt(false, "prices term 1", 12);
        faultAt(false, "prices 1\t+1", 8);
        faultAt(false, "prices 1" + (char) 233, 8);
        faultAt(true, "prices 1", 0);
        faultAt(true, "renew mood", 6);
        faultAt(true, "renew term", 10);
        faultAt(true, "renew term 8", 11);
        faultAt(true, "renew term [1]", 11);
        faultAt(true, "renew means 4", 12);
        faultAt(true, "lodge 1", 7);
        faultAt(true, "lodge 1 if", 8);
        faultAt(true, "lodge in 1", 6);
        faultAt(true, "lodge 1 in 2 in 3", 13);
        faultAt(true, "knock 1 in 2", 8);
        faultAt(true, "pass 1", 5);
        faultAt(true, "pass times", 10);
        faultAt(true, "pass times 0", 11);
        faultAt(true, "pass times 21", 11);
        faultAt(true, "pass times 1+1", 12);
        faultAt(true, "pass if 1 = 1 times 2", 14);
        faultAt(true, "pass times 2 times 2", 13);
        VaultLeases x = Check.small();
        c.due("times 20", Check.orders(x, "pass times 20;pass times 01"), 21);
        c.due("fault of none", x.fault(), NONE);
    }

    private static void limitsOfTexts() {
        c.about("promise 15, 17: limits");
        VaultLeases x = Check.small();
        c.due("12 clauses", Check.law(x, Check.many("bars", ";", 12)), 0);
        faultAt(false, Check.many("bars", ";", 13), 60);
        faultAt(false, Check.many("bars", ";", 12) + ";  ?", 62);
        faultAt(false, Check.many("bars", ";", 12) + ";", 60);
        faultAt(false, Check.many("bars", ";", 12) + " ?", 60);
        c.due("50 parts", Check.law(x, "lasts " + Check.many("1", "+", 50)), 1);
        faultAt(false, "lasts " + Check.many("1", "+", 51), 106);
        c.due("of all clauses", Check.law(x, "lasts " + Check.many("1", "+", 25) + ";lasts " + Check.many("1", "+", 25)), 2);
        faultAt(false, "lasts " + Check.many("1", "+", 25) + ";lasts " + Check.many("1", "+", 26), 112);
        c.due("D, F, TIMES are none", Check.orders(x, "pass times 1 if " + Check.many("term 7", "+", 24) + "+" + Check.many("means 3", "+", 25) + "=0"), 0);
        faultAt(true, "pass times 1 if " + Check.many("term 7", "+", 25) + "+" + Check.many("means 3", "+", 25) + "=0", 391);
        c.due("8 brackets", Check.law(x, "bars if ((((([[[1]]]=1)))))"), 3);
        faultAt(false, "bars if ((((([[[[1]]]]=1)))))", 16);
        faultAt(false, "bars if (((((((((1=1)))))))))", 16);
        c.due("within one another", Check.law(x, "bars if " + Check.many("((1=[[1]]))", "or", 20)), 4);
        c.due("many nots", Check.law(x, "bars if " + Check.many("not", " ", 97) + "0=1"), 5);
        x.force(5);
        c.due("an odd number of them", x.asks(0, 1, 1), 1);
        x = under("bars if " + Check.many("not", " ", 96) + "0=1");
        c.due("an even one", x.asks(0, 1, 1), 0);
        x = under("lasts " + Check.many("1", "+", 50));
        c.due("they count", x.of(0, 5), 20);
        x = under("prices 1+[2*[3+[4*[5+[6*[7+[8*[9-8]]]]]]]]/100");
        c.due("deep", x.of(0, 4), 1 + 2 * (3 + 4 * (5 + 6 * (7 + 8))) / 100);
    }

    private static void force() {
        c.about("promise 19");
        VaultLeases x = Check.small();
        c.due("none", x.force(NONE), NONE);
        c.due("no such", x.force(0), -2);
        Check.law(x, "prices 8");
        Check.law(x, "prices 9");
        c.due("force", x.force(1), NONE);
        c.due("priced", x.of(0, 4), 9);
        c.due("count", x.count(13), 1);
        c.due("force", x.force(0), 1);
        c.due("priced", x.of(0, 4), 8);
        c.due("no such", x.force(2), -2);
        c.due("no such", x.force(-2), -2);
        c.due("as it was", x.count(13), 0);
        c.due("none", x.force(NONE), 0);
        c.due("priced", x.of(0, 4), 5);
    }

    private static void renewals() {
        c.about("promise 20");
        VaultLeases x = under("prices 31 if dead = 0;prices 30 if dead = 2;prices means if dead = 1;lasts means if family = 1");
        c.due("no such", x.renew(3), -2);
        c.due("no such", x.renew(-1), -2);
        c.due("it has less", x.renew(0), -3);
        c.due("it has that", x.renew(2), 30);
        c.due("means", x.has(0, 0), 0);
        c.due("term", x.of(2, 2), 22);
        c.due("both asked ahead", x.renew(1), 7);
        c.due("term", x.of(1, 2), 8);
        c.due("means", x.has(1, 0), 0);
        c.due("one at least", x.renew(1), -3);
        VaultLeases y = Check.small();
        y.pass();
        c.due("OUT", y.renew(1), -3);
        y = under("lasts 20;earns 99");
        for (int i = 0; i < 5; i++) {
            c.due("renew", y.renew(2), 5);
        }
        c.due("99 at most", y.of(2, 2), 99);
        c.due("once more", y.renew(2), 5);
        c.due("99 at most", y.of(2, 2), 99);
        c.due("paid", y.has(0, 0), 0);
    }

    private static void lodgings() {
        c.about("promise 21");
        VaultLeases x = Check.small();
        x.vault(3);
        c.due("no such", x.lodge(3, 0), -2);
        c.due("no such", x.lodge(0, 3), -2);
        c.due("no such", x.lodge(0, NONE), -2);
        c.due("full", x.lodge(0, 1), -3);
        c.due("where it lies", x.lodge(0, 0), -3);
        c.due("lodge", x.lodge(0, 2), 2);
        c.due("term stays", x.of(0, 2), 3);
        c.due("its bed is free", x.at(0, 1), 1);
        c.due("where it lies", x.lodge(0, 2), -3);
        x.pass();
        c.due("one who is OUT", x.lodge(1, 2), 1);
        c.due("term", x.of(1, 2), 1);
        Check.law(x, "bars if free = 2");
        x.force(0);
        c.due("barred", x.lodge(2, 0), -3);
        c.due("not barred", x.lodge(0, 0), -3);
        x.force(NONE);
        c.due("lodge", x.lodge(2, 0), 1);
        x.force(0);
        c.due("asked as it is ahead", x.lodge(0, 0), 0);
    }

    private static void knocks() {
        c.about("promise 22");
        VaultLeases x = Check.small();
        x.vault(1);
        x.dead(0, 2, 99);
        c.due("no such", x.knock(4), -2);
        c.due("no such", x.knock(-1), -2);
        c.due("knock", x.knock(0), 4);
        c.due("once for each", x.knock(0), -3);
        c.due("99 at most", x.knock(3), 99);
        c.due("once", x.knock(3), -3);
        x.pass();
        c.due("OUT", x.knock(1), -3);
        x.lodge(1, 0);
        c.due("IN again", x.knock(1), 2);
        x.pass();
        x.pass();
        x.lodge(1, 0);
        c.due("once for each", x.knock(1), -3);
    }

    private static void years() {
        c.about("promise 23");
        VaultLeases x = under("earns 98 if family = 0;earns mood + means / 7 + year if family = 1");
        x.terms(2, 3);
        x.terms(0, 997);
        x.family(950);
        c.due("pass", x.pass(), 998);
        c.due("means", x.has(0, 0), 128);
        c.due("bounded, asked ahead", x.has(1, 0), 106);
        c.due("means", x.has(2, 0), 960);
        c.due("OUT", x.of(1, 1), NONE);
        c.due("term", x.of(0, 2), 2);
        c.due("pass", x.pass(), 999);
        c.due("OUT stays", x.of(1, 2), 0);
        c.due("no more", x.pass(), -3);
        c.due("as it was", x.has(0, 0), 226);
        x.terms(0, 0);
        for (int i = 1; i <= 6; i++) {
            c.due("pass", x.pass(), i);
        }
        c.due("999 at most", x.has(2, 0), 999);
        c.due("one is in", x.count(3), 1);
    }

    private static void undoing() {
        c.about("promise 24");
        VaultLeases x = Check.small();
        x.vault(2);
        x.renew(0);
        x.lodge(0, 2);
        x.knock(1);
        x.pass();
        x.pass();
        x.lodge(1, 0);
        c.due("lodge", x.undo(), 1);
        c.due("OUT", x.of(1, 1), NONE);
        c.due("term", x.of(1, 2), 0);
        c.due("pass", x.undo(), 3);
        c.due("IN", x.of(1, 1), 0);
        c.due("term", x.of(1, 2), 1);
        c.due("year", x.count(14), 1);
        c.due("means", x.has(1, 0), 17);
        c.due("pass", x.undo(), 3);
        c.due("knock", x.undo(), 2);
        c.due("not KNOCKED", x.of(1, 3), 0);
        c.due("term", x.of(1, 2), 1);
        c.due("lodge", x.undo(), 1);
        c.due("vault", x.of(0, 1), 0);
        c.due("renew", x.undo(), 0);
        c.due("means", x.has(0, 0), 30);
        c.due("term", x.of(0, 2), 3);
        c.due("none", x.undo(), -3);
        c.due("status", x.status(), -3);
        x.pass();
        c.due("refused", x.renew(1), -3);
        x.wish(0, 1, 7);
        Check.law(x, "prices 9");
        x.force(0);
        x.seen(1, 1);
        c.due("what else is done stays", x.undo(), 3);
        c.due("wish", x.asks(0, 1, 0), 7);
        c.due("force", x.count(13), 0);
        c.due("seen", x.count(4), 1);
    }

    private static void undoingLimits() {
        c.about("promise 24: limits");
        VaultLeases x = Check.small();
        for (int i = 0; i < 17; i++) {
            x.pass();
        }
        c.due("16 are kept", x.count(6), 16);
        for (int i = 0; i < 16; i++) {
            c.due("undo", x.undo(), 3);
        }
        c.due("no more", x.undo(), -3);
        c.due("year", x.count(14), 1);
        for (int i = 0; i < 5; i++) {
            x.pass();
            c.due("one", x.count(6), 1);
            switch (i) {
                case 0: x.vault(1); break;
                case 1: x.family(1); break;
                case 2: x.dead(0, 2, 90); break;
                case 3: x.terms(1, 3); break;
                default: Check.row(x, 9); break;
            }
            c.due("none behind " + i, x.count(6), 0);
            c.due("undo", x.undo(), -3);
        }
        x.pass();
        x.vault(4);
        x.family(1000);
        x.dead(9, 9, 9);
        x.terms(3, 3);
        x.row();
        x.image(0);
        x.forget();
        x.centuries(1, 1);
        x.back(1);
        c.due("those that were refused, and others, leave it", x.count(6), 1);
        x.back(0);
        c.due("nothing behind back()", x.count(6), 0);
    }

    private static void insideAndEmpty() {
        c.about("promise 25, 26");
        VaultLeases x = Check.small();
        c.due("inside", x.inside(0), 7);
        c.due("inside", x.inside(1), 5);
        c.due("inside", x.inside(2), 5);
        c.due("inside", x.inside(11), 4);
        c.due("inside", x.inside(12), 0);
        c.due("inside", x.inside(99), 0);
        c.due("inside", x.inside(100), NONE);
        c.due("inside", x.inside(-1), NONE);
        c.due("empty", x.empty(), 12);
        x.pass();
        c.due("OUT", x.inside(0), 5);
        c.due("empty", x.empty(), 11);
        VaultLeases y = new VaultLeases();
        c.due("nobody", y.inside(0), 0);
        c.due("now", y.empty(), 0);
    }

    private static void keeping() {
        c.about("promise 27");
        VaultLeases x = new VaultLeases();
        x.vault(3);
        x.vault(3);
        x.family(20);
        x.family(0);
        x.dead(0, 0, 4);
        x.dead(0, 0, 5);
        x.dead(0, 0, 5);
        x.dead(1, 1, 5);
        x.dead(0, 1, 1);
        x.dead(1, 1, 50);
        Check.law(x, "prices 8;prices 7 if dead = 0;prices 6 if dead = 4;lasts 3");
        x.force(0);
        // For 8 YEARS: 14 (two), 8, 8, 18 (three).
        c.due("how many", x.keep(0, 8, 0), 2);
        c.due("how much", x.keep(0, 8, 1), 16);
        c.due("who", x.keep(0, 8, 2), 6);
        c.due("five or more they have", x.keep(0, 5, 1), 19);
        c.due("who", x.keep(0, 5, 2), 23);
        c.due("the cheapest one", x.keep(0, 9, 2), 1);
        c.due("for", x.keep(0, 9, 1), 14);
        Check.law(x, "prices 9;lasts 3");
        x.force(1);
        c.due("the lowest bits", x.keep(0, 7, 2), 3);
        c.due("for", x.keep(0, 7, 1), 18);
        c.due("nothing is to pay", x.keep(1, 5, 2), 40);
        c.due("one can't be", x.keep(1, 6, 2), 32);
        c.due("99 aside", x.keep(0, 99, 0), 0);
        c.due("nobody", x.keep(0, 99, 1), 0);
        c.due("nobody", x.keep(0, 99, 2), 0);
        x.pass();
        c.due("OUT", x.keep(0, 1, 2), 7);
        c.due("n 0", x.keep(0, 0, 0), NONE);
        c.due("n 100", x.keep(0, 100, 0), NONE);
        c.due("what 3", x.keep(0, 1, 3), NONE);
        c.due("what -1", x.keep(0, 1, -1), NONE);
        c.due("family 2", x.keep(2, 1, 0), NONE);
        c.due("family -1", x.keep(-1, 1, 0), NONE);
        c.due("nobody renewed", x.has(0, 0), 30);
    }

    private static void whenToRenew() {
        c.about("promise 28");
        VaultLeases x = under("prices 20 - year if year < 1000;prices 3 if year = 1000 + 4;prices 2 + term if term < 3;prices 40 + free");
        Check.law(x, "prices 20 - year % 7");
        Check.law(x, "prices term * term - 8 * term + 30");
        Check.law(x, "prices 60 - year / 20;prices 1 if year = 1000 + 5");
        x.force(1);
        c.due("in 6 years", x.when(2, 0), 6);
        c.due("for", x.when(2, 1), 14);
        c.due("within its TERM", x.when(0, 0), 2);
        c.due("for", x.when(0, 1), 18);
        x.force(2);
        c.due("when TERM is 4", x.when(2, 0), 8);
        c.due("for", x.when(2, 1), 14);
        x.terms(0, 998);
        x.force(3);
        c.due("beyond 999, too", x.when(2, 0), 7);
        c.due("for", x.when(2, 1), 1);
        Check.law(x, "prices 9;prices 4 if year = 999");
        x.force(4);
        c.due("next year", x.when(2, 0), 1);
        c.due("for", x.when(2, 1), 4);
        x.force(NONE);
        c.due("the first", x.when(2, 0), 0);
        c.due("without a law", x.when(2, 1), 5);
        x.force(0);
        c.due("all else as now", x.when(2, 1), 40);
        x.pass();
        c.due("OUT", x.when(1, 0), NONE);
        c.due("what 2", x.when(0, 2), NONE);
        c.due("what -1", x.when(0, -1), NONE);
        c.due("dead 3", x.when(3, 0), NONE);
        c.due("dead -1", x.when(-1, 0), NONE);
    }

    private static void strangers() {
        c.about("promise 29, 30, 31");
        VaultLeases x = Check.small();
        c.due("all", x.stranger(), 7);
        c.due("n 100", x.seen(100, 0), -1);
        c.due("n -1", x.seen(-1, 0), -1);
        c.due("out 2", x.seen(0, 2), -1);
        c.due("out -1", x.seen(0, -1), -1);
        c.due("seen", x.seen(3, 1), 1);
        c.due("OUT in 3", x.stranger(), 3);
        c.due("seen", x.seen(2, 0), 2);
        c.due("IN in 2", x.stranger(), 1);
        c.due("seen", x.seen(99, 1), 3);
        c.due("one yet", x.stranger(), 1);
        c.due("seen", x.seen(0, 1), 4);
        c.due("nobody", x.stranger(), 0);
        for (int i = 5; i <= 8; i++) {
            c.due("seen", x.seen(0, 1), i);
        }
        c.due("a ninth", x.seen(0, 1), -5);
        c.due("-1 ahead of -5", x.seen(0, 2), -1);
        c.due("count", x.count(4), 8);
        c.due("forget", x.forget(), 8);
        c.due("forget", x.forget(), 0);
        c.due("count", x.count(4), 0);
        c.due("all", x.stranger(), 7);
        x.pass();
        x.seen(0, 1);
        c.due("OUT now", x.stranger(), 2);
        x.seen(50, 1);
        c.due("OUT ever on", x.stranger(), 2);
    }

    private static void looking() {
        c.about("promise 32");
        VaultLeases x = Check.small();
        c.due("year", x.look(0), 1);
        c.due("left", x.look(1), 2);
        c.due("what 2", x.look(2), NONE);
        c.due("what -1", x.look(-1), NONE);
        x.vault(1);
        x.dead(0, 2, 12);
        c.due("half", x.look(0), 3);
        c.due("half", x.look(1), 2);
        x.seen(5, 0);
        c.due("of strangers alone", x.look(0), 0);
        c.due("both are alike", x.look(1), 2);
        x.seen(5, 1);
        c.due("no strangers", x.look(0), NONE);
        c.due("no strangers", x.look(1), NONE);
    }

    private static void rooms() {
        c.about("promise 33");
        VaultLeases x = new VaultLeases();
        c.due("nobody", x.rooms(0), 0);
        c.due("nobody", x.rooms(1), 0);
        c.due("no such", x.rooms(2), NONE);
        x.vault(1);
        x.vault(2);
        x.vault(1);
        x.family(1);
        x.dead(0, 0, 1);
        x.dead(0, 1, 1);
        x.dead(0, 1, 1);
        x.dead(0, 2, 5);
        c.due("all are IN", x.rooms(0), 0);
        c.due("IN", x.rooms(5), NONE);
        x.pass();
        c.due("all", x.rooms(0), 3);
        c.due("wishes", x.rooms(1), 0);
        c.due("the first row", x.rooms(2), 0);
        c.due("the first row", x.rooms(3), 1);
        c.due("the first row", x.rooms(4), 1);
        c.due("IN", x.rooms(5), NONE);
        c.due("no such", x.rooms(6), NONE);
        c.due("no such", x.rooms(-1), NONE);
        x.wish(0, 0, 9);
        x.wish(1, 0, 5);
        x.wish(0, 1, 5);
        c.due("wishes", x.rooms(1), 10);
        x.wish(0, 1, 6);
        c.due("the most together", x.rooms(1), 11);
        c.due("row", x.rooms(2), 1);
        c.due("row", x.rooms(3), 0);
        c.due("row", x.rooms(4), 1);
        Check.law(x, "bars if vault = 1 and not dead = 2");
        x.force(0);
        c.due("how many, ahead of wishes", x.rooms(0), 2);
        c.due("wishes", x.rooms(1), 9);
        c.due("none", x.rooms(3), 100);
        x.wish(1, 0, 9);
        c.due("none is behind all", x.rooms(2), 0);
        x.wish(2, 0, 9);
        x.wish(2, 1, 8);
        c.due("two are more than the wishes of one", x.rooms(0), 2);
        c.due("wishes", x.rooms(1), 17);
        Check.law(x, "bars");
        x.force(1);
        c.due("all are barred", x.rooms(0), 0);
        c.due("none", x.rooms(2), 100);
    }

    private static void packed() {
        c.about("promise 34");
        VaultLeases x = new VaultLeases();
        c.due("nobody", x.packed(0), 0);
        c.due("nobody", x.packed(1), 0);
        x.vault(1);
        x.vault(2);
        x.vault(3);
        x.vault(3);
        x.family(1);
        x.dead(0, 0, 9);
        x.dead(0, 1, 9);
        x.dead(0, 2, 9);
        c.due("one", x.packed(0), 1);
        c.due("the lowest", x.packed(1), 4);
        x.dead(0, 2, 1);
        c.due("two", x.packed(0), 2);
        c.due("the lowest", x.packed(1), 5);
        Check.law(x, "bars if vault < 2 and dead < 2");
        Check.law(x, "bars if dead = 0");
        Check.law(x, "bars if vault = 2 and not dead = 3;bars if vault = 3 and dead = 3");
        x.force(0);
        c.due("two are barred from both", x.packed(1), 5);
        x.force(1);
        c.due("it can't be", x.packed(0), NONE);
        c.due("it can't be", x.packed(1), NONE);
        x.force(2);
        c.due("apart", x.packed(0), 2);
        c.due("apart", x.packed(1), 9);
        x.pass();
        c.due("of those IN", x.packed(1), 8);
        c.due("what 2", x.packed(2), NONE);
        c.due("what -1", x.packed(-1), NONE);
    }

    private static void changes() {
        c.about("promise 35");
        VaultLeases x = new VaultLeases();
        c.due("none", x.changes(NONE), 0);
        c.due("none", x.changes(0), NONE);
        x.vault(3);
        x.vault(3);
        x.vault(1);
        x.family(1);
        x.dead(0, 0, 9);
        x.dead(0, 1, 9);
        x.dead(0, 1, 9);
        x.dead(0, 0, 9);
        x.dead(0, 2, 1);
        for (int d = 0; d < 5; d++) {
            for (int v = 0; v < 3; v++) {
                x.wish(d, v, x.of(d, 1) == v ? 3 : 4);
            }
        }
        int[] twos = {1, 2, 4, 13, 14, 23, 24, 34};
        c.due("how many", x.changes(NONE), twos.length);
        for (int i = 0; i < twos.length; i++) {
            c.due("changes(" + i + ")", x.changes(i), twos[i]);
        }
        c.due("no more", x.changes(twos.length), NONE);
        c.due("below", x.changes(-2), NONE);
        x.wish(1, 0, 3);
        c.due("not more", x.changes(NONE), 6);
        c.due("not more", x.changes(0), 2);
        Check.law(x, "bars if dead = 2 and vault = 0");
        x.force(0);
        c.due("barred", x.changes(NONE), 4);
        c.due("barred", x.changes(0), 4);
        x.pass();
        c.due("OUT", x.changes(NONE), 0);
    }

    private static void few() {
        c.about("promise 36");
        VaultLeases x = new VaultLeases();
        c.due("few(1, 0)", x.few(1, 0), 1000000000000L);
        c.due("few(1, 1)", x.few(1, 1), 800000000000L);
        c.due("few(2, 2)", x.few(2, 2), 960000000000L);
        c.due("few(20, 19)", x.few(20, 19), cut(2, 20, 19));
        c.due("cut", x.few(3, 99), cut(2, 3, 99));
        c.due("few(0, 1)", x.few(0, 1), NONE);
        c.due("few(21, 1)", x.few(21, 1), NONE);
        c.due("few(1, -1)", x.few(1, -1), NONE);
        c.due("few(1, 100)", x.few(1, 100), NONE);
        for (int dies = 0; dies <= 10; dies++) {
            x.terms(1, dies);
            for (int k = 1; k <= 20; k += 3) {
                for (int n = 0; n <= 99; n += 33) {
                    c.due("few(" + k + ", " + n + ") of " + dies, x.few(k, n), cut(dies, k, n));
                }
            }
        }
    }

    private static long cut(int dies, int k, int n) {
        long[] now = new long[n + 2];
        now[0] = 1000000000000L;
        for (int i = 0; i < n; i++) {
            long[] then = new long[n + 2];
            for (int j = 0; j <= i; j++) {
                then[j] += now[j] * (10 - dies) / 10;
                then[j + 1] += now[j] * dies / 10;
            }
            now = then;
        }
        long all = 0;
        for (int j = 0; j < k && j < now.length; j++) {
            all += now[j];
        }
        return all;
    }

    private static void compared() {
        c.about("promise 37");
        VaultLeases x = under("prices 10 + dead");
        Check.law(x, "prices 20;prices 50 if vault = 1");
        c.due("in force", x.compare(0), 33);
        c.due("another", x.compare(1), 90);
        c.due("none", x.compare(NONE), 15);
        c.due("no such", x.compare(2), NONE);
        c.due("no such", x.compare(-2), NONE);
        c.due("as it was", x.count(13), 0);
        x.pass();
        c.due("those IN", x.compare(1), 70);
    }

    private static void centuries() {
        c.about("promise 38, 39");
        VaultLeases x = new VaultLeases();
        c.due("no dead", x.centuries(0, 1), -3);
        c.due("-1 ahead of -3", x.centuries(-1, 1), -1);
        x = Check.small();
        c.due("seed", x.centuries(1000001, 1), -1);
        c.due("n 0", x.centuries(0, 0), -1);
        c.due("n 61", x.centuries(0, 61), -1);
        c.due("none yet", x.drawn(0, 0), NOTHING);
        // DRAWS from 0: 12345 (0 of 3), 628709 (1 of 2), 472651 (1 of 3): VAULT 1 is full.
        c.due("one", x.centuries(0, 1), 1);
        c.due("vault", x.drawn(0, 0), 0);
        c.due("term", x.drawn(0, 1), 2);
        c.due("OUT", x.drawn(1, 0), NONE);
        c.due("term", x.drawn(1, 1), 0);
        c.due("means", x.drawn(0, 2), 40);
        c.due("means", x.drawn(1, 2), 17);
        c.due("no such", x.drawn(2, 2), NOTHING);
        c.due("no such", x.drawn(3, 0), NOTHING);
        c.due("no such", x.drawn(-1, 1), NOTHING);
        c.due("what 3", x.drawn(0, 3), NOTHING);
        c.due("on paper", x.of(1, 1), 0);
        c.due("on paper", x.count(14), 0);
        c.due("on paper", x.count(6), 0);
        x.family(500);
        x.vault(3);
        x.dead(2, 2, 9);
        c.due("as it was then", x.drawn(2, 2), NOTHING);
        c.due("as it was then", x.drawn(3, 0), NOTHING);
        c.due("refused", x.centuries(0, 99), -1);
        c.due("the latest that was not", x.drawn(0, 1), 2);
        c.due("the largest", x.centuries(1000000, 60) >= 0 ? 1 : 0, 1);
        x.terms(0, 997);
        x.centuries(5, 60);
        c.due("two years alone", x.drawn(2, 1) <= 10 + 10 + 1 && x.drawn(1, 2) <= 27 ? 1 : 0, 1);
        x.terms(0, 999);
        c.due("at once", x.centuries(5, 60), 0);
        c.due("as it stands", x.drawn(2, 1), 12);
        c.due("as it stands", x.drawn(2, 2), 500);
    }

    private static void images() {
        c.about("promise 40, 41");
        VaultLeases x = Check.small();
        c.due("image(2)", x.image(2), -1);
        c.due("image(-1)", x.image(-1), -1);
        c.due("back(2)", x.back(2), -1);
        c.due("back(-1)", x.back(-1), -1);
        c.due("not kept", x.back(0), -2);
        c.due("image", x.image(1), 0);
        c.due("not kept", x.back(0), -2);
        x.pass();
        c.due("image", x.image(0), 0);
        x.pass();
        c.due("back", x.back(1), 0);
        c.due("year", x.count(14), 0);
        c.due("back", x.back(0), 0);
        c.due("year", x.count(14), 1);
        c.due("back again", x.back(1), 0);
        c.due("year", x.count(14), 0);
        x.pass();
        c.due("nothing done later is in it", x.back(1), 0);
        c.due("year", x.count(14), 0);
        c.due("kept anew", x.image(0), 0);
        x.pass();
        x.back(0);
        c.due("year", x.count(14), 0);
    }

    private static void imagesKeep() {
        c.about("promise 40, 41: what they keep");
        VaultLeases x = under("prices 8");
        x.terms(1, 4);
        x.terms(2, 5);
        x.wish(0, 1, 6);
        x.seen(3, 1);
        x.knock(0);
        x.centuries(3, 2);
        int term = x.drawn(2, 1);
        x.image(0);
        x.vault(3);
        x.family(60);
        x.dead(2, 2, 50);
        Check.law(x, "prices 9");
        x.force(1);
        x.terms(1, 9);
        x.terms(2, 9);
        x.wish(0, 1, 1);
        x.seen(4, 1);
        x.seen(4, 1);
        x.renew(0);
        x.knock(2);
        x.knock(2);
        x.centuries(3, 30);
        int vault = x.drawn(3, 0);
        Check.row(x, 9, 9);
        Check.orders(x, "knock 0");
        c.due("wrong", Check.law(x, "prices"), -6);
        c.due("refused", x.centuries(-3, 1), -1);
        x.feed(0, 0, 0, 0, 0);
        c.due("back", x.back(0), 0);
        int[] due = {2, 2, 3, 3, 1, 1, 0, 20, 1, 0, 2, 0, 1, 0, 0, 4, 5};
        for (int i = 0; i < due.length; i++) {
            c.due("count(" + i + ")", x.count(i), due[i]);
        }
        c.due("wish", x.asks(0, 1, 0), 6);
        c.due("price", x.of(0, 4), 8);
        c.due("knocked", x.of(0, 3), 1);
        c.due("not knocked", x.of(2, 3), 0);
        c.due("means", x.has(0, 0), 30);
        c.due("not the fault", x.fault(), 6);
        c.due("not where orders stopped", x.stopped(), 0);
        c.due("not draughts", x.draughts(), 1);
        c.due("not the latest centuries", x.drawn(3, 0), vault);
        c.due("not the latest centuries", x.drawn(3, 1) == NOTHING || term == NOTHING ? 1 : 0, 0);
        c.due("another law of that number", Check.law(x, "prices 7"), 1);
        x.force(1);
        c.due("priced by it", x.of(0, 4), 7);
        x.back(0);
        c.due("the law that was", x.of(0, 4), 8);
        c.due("no such law", x.force(1), -2);
    }

    private static void counts() {
        c.about("promise 42");
        VaultLeases x = Check.small();
        x.pass();
        x.seen(1, 1);
        Check.law(x, "bars");
        x.force(0);
        x.terms(2, 7);
        x.knock(0);
        x.feed(1, 2, 3, 4, 5);
        x.end(13);
        int[] due = {2, 2, 3, 2, 1, 1, 1, 13, 0, 0, 0, 0, 0, 0, 1, 2, 7};
        for (int i = 0; i < due.length; i++) {
            c.due("count(" + i + ")", x.count(i), due[i]);
        }
        c.due("count(17)", x.count(17), NONE);
        c.due("count(-1)", x.count(-1), NONE);
        // Refused by -1 three times, -2 twice, -3 four times, -5 once, -6 twice; NONE is no refusal.
        x.end(0);
        x.vault(9);
        x.image(9);
        x.terms(9, 9);
        x.knock(9);
        x.force(9);
        x.knock(1);
        x.lodge(0, 0);
        x.knock(0);
        c.due("one by -3, whatever an order was refused by", Check.orders(x, "knock 9"), -3);
        for (int i = 0; i < 5; i++) {
            x.family(1);
        }
        x.row();
        x.law();
        x.at(9, 9);
        x.end(999);
        x.rooms(99);
        x.few(0, 0);
        x.compare(9);
        c.due("-1", x.count(8), 3);
        c.due("-2", x.count(9), 2);
        c.due("-3", x.count(10), 4);
        c.due("-5", x.count(11), 3);
        c.due("-6", x.count(12), 2);
    }

    private static void statuses() {
        c.about("promise 43");
        VaultLeases x = new VaultLeases();
        x.vault(0);
        c.due("vault", x.status(), -1);
        x.at(9, 9);
        x.feed(0, 0, 0, 0, 0);
        x.end(999);
        x.forget();
        x.inside(100);
        x.compare(3);
        x.drawn(9, 9);
        c.due("others leave it", x.status(), -1);
        x.vault(1);
        c.due("vault", x.status(), 0);
        x.dead(0, 0, 1);
        c.due("dead", x.status(), -2);
        x.family(1);
        c.due("family", x.status(), 0);
        x.knock(0);
        c.due("knock", x.status(), -2);
        x.dead(0, 0, 1);
        c.due("dead", x.status(), 0);
        x.undo();
        c.due("undo", x.status(), -3);
        x.wish(0, 0, 1);
        c.due("wish", x.status(), 0);
        x.terms(9, 9);
        c.due("terms", x.status(), -1);
        x.seen(0, 0);
        c.due("seen", x.status(), 0);
        x.lodge(0, 0);
        c.due("lodge", x.status(), -3);
        x.renew(0);
        c.due("renew", x.status(), -3);
        x.pass();
        c.due("pass", x.status(), 0);
        x.centuries(0, 0);
        c.due("centuries", x.status(), -1);
        x.image(0);
        c.due("image", x.status(), 0);
        x.back(1);
        c.due("back", x.status(), -2);
        x.undo();
        c.due("undo", x.status(), 0);
        x.end(0);
        x.row();
        c.due("row", x.status(), -6);
        Check.orders(x, "pass");
        c.due("orders", x.status(), 0);
        Check.law(x, "pass");
        c.due("law", x.status(), -6);
        x.force(NONE);
        c.due("force", x.status(), 0);
        for (int i = 0; i < 9; i++) {
            x.seen(0, 0);
        }
        c.due("seen", x.status(), -5);
        c.due("status itself leaves it", x.status(), -5);
        x.knock(0);
        c.due("knock", x.status(), -3);
    }
}
