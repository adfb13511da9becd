/** Sentences about what both languages share: Terms II, its first part. */
final class TextEdges {
    private final Edges e;

    TextEdges(Edges e) {
        this.e = e;
    }

    void run() {
        tapes();
        tokens();
        clauses();
        tests();
        sums();
        parts();
        limits();
        faults();
        broken();
        whatStandsBehind();
    }

    private static String fill(String ahead, String behind, int length) {
        return ahead + " ".repeat(length - ahead.length() - behind.length()) + behind;
    }

    private void tapes() {
        e.terms();
        e.says("II. TEXTS are on a TAPE of at most 400 bytes.");
        VaultLeases x = e.under(fill("prices 1;prices", "77", 400));
        e.due("all of it is read", x.of(0, 4), 77);
        e.due("of 400 bytes the last is where it stops", Check.law(x, fill("prices 1", "?", 400)), -6);
        e.due("fault", x.fault(), 399);
        Check.feed(x, Check.bytes(" ".repeat(400)));
        e.due("one more can't be", x.feed(0, 0, 0, 0, 0), -1);
        e.due("400", x.count(7), 400);
        e.due("ORDERS of 400 bytes", Check.orders(x, fill("pass", "if 1=1", 400)), 1);
        e.due("400 TOKENS", Check.law(x, "(".repeat(400)), -6);
        e.due("fault", x.fault(), 0);
        e.due("400 TOKENS but two", Check.law(x, "bars if" + "(".repeat(393)), -6);
        e.due("fault at the ninth bracket", x.fault(), 15);
    }

    private void tokens() {
        e.says("TOKENS: longest rows of letters a .. z");
        e.faultOfLaw("prices deada", 7);
        e.faultOfLaw("prices deadz", 7);
        e.faultOfLaw("prices dead`", 11);
        e.faultOfLaw("prices dead{", 11);
        e.faultOfLaw("prices deadA", 11);
        e.faultOfLaw("prices deadZ", 11);
        e.faultOfLaw("prices de ad", 7);
        e.faultOfLaw("barsif 1=1", 0);
        e.faultOfLaw("bars ifnot 1=1", 5);
        e.faultOfLaw("bars if notnot 1=1", 8);
        e.faultOfLaw("Bars", 0);
        e.faultOfLaw("bars if year" + (char) ('r' + 128) + "=1", 12);
        for (String word : new String[] {"prices 1", "lasts 1", "earns 1", "bars"}) {
            e.faultOfLaw("q" + word.substring(1), 0);
            e.faultOfLaw("q" + word, 0);
        }
        for (String word : new String[] {"renew 0", "lodge 0 in 0", "knock 0", "pass"}) {
            e.faultOfOrders("q" + word.substring(1), 0);
            e.faultOfOrders("q" + word, 0);
        }
        e.faultOfLaw("bars of 1=1", 5);
        e.faultOfLaw("bars if 1=1 er 1=1", 12);
        e.faultOfLaw("bars if 1=1 end 1=1", 12);
        e.faultOfLaw("bars if net 1=1", 8);
        e.faultOfOrders("lodge 0 on 0", 8);
        e.faultOfOrders("pass dimes 2", 5);
        e.says(", of digits");
        e.priced("12", 12);
        e.priced("09", 9);
        e.priced("90", 90);
        e.priced("10if1=1", 10);
        e.faultOfLaw("prices 1 2", 9);
        e.faultOfLaw("prices 1:", 8);
        e.faultOfLaw("prices 1.", 8);
        e.priced("8/2", 4);
        e.priced("dead+7", 7);
        e.faultOfLaw("prices dead7", 11);
        e.says(", single other bytes");
        e.faultOfLaw("bars;;bars", 5);
        e.faultOfLaw("bars if 1<=1", 10);
        e.faultOfLaw("bars if 1==1", 10);
        e.so("((1=1))and[[1]]=1", true);
        for (int sign : new int[] {0, 9, 10, 13, 31, 33, 127, 128, 160, 255}) {
            e.faultOfLaw("bars" + (char) sign, 4);
            e.faultOfLaw("prices 1" + (char) sign + "2", 8);
        }
        e.says(", any blanks (32) between.");
        e.right("bars if 1=1");
        e.right("    bars    if    1    =    1    ");
        e.right("bars if not(1=1)or[1]=1and not[1]=1");
        e.right(" bars ; bars ");
    }

    private void clauses() {
        e.says("Of both languages: CLAUSE {\";\" CLAUSE}");
        e.right("bars");
        e.right("bars;bars");
        e.faultOfLaw(";", 0);
        e.faultOfLaw("bars;", 5);
        e.faultOfLaw("bars bars", 5);
        e.faultOfLaw("bars,bars", 4);
        e.faultOfOrders(";", 0);
        e.faultOfOrders("pass;", 5);
        e.faultOfOrders("pass pass", 5);
        e.orders(Check.small(), "pass", 1);
        e.orders(Check.small(), "pass;pass", 2);
        e.says(", 12 at most (FAULT at the 13th's first TOKEN).");
        e.right(Check.many("bars", ";", 12));
        e.faultOfLaw(Check.many("bars", ";", 13), 60);
        e.faultOfLaw(Check.many("bars", ";", 14), 60);
        e.faultOfLaw(Check.many("bars", ";", 12) + ";   bars", 63);
        e.faultOfLaw(Check.many("bars", ";", 12) + ";", 60);
        e.faultOfLaw(Check.many("bars", ";", 12) + ";  ", 62);
        e.faultOfLaw(Check.many("bars", ";", 12) + " bars", 60);
        e.orders(Check.small(), Check.many("pass", ";", 12), 12);
        e.faultOfOrders(Check.many("pass", ";", 13), 60);
        e.faultOfOrders(Check.many("pass", ";", 12) + ";?", 60);
        VaultLeases x = e.under("prices 2;" + Check.many("bars if 1=2", ";", 10) + ";prices 3");
        e.due("the twelfth counts", x.of(0, 4), 3);
    }

    private void tests() {
        e.says("TEST: BOTH {\"or\" BOTH}.");
        e.so("1=1", true);
        e.so("1=2 or 1=2 or 1=1", true);
        e.so("1=2 or 1=2 or 1=2", false);
        e.faultOfLaw("bars if 1=1 or", 14);
        e.faultOfLaw("bars if or 1=1", 8);
        e.faultOfLaw("bars if 1=1 or or 1=1", 15);
        e.says("BOTH: PLAIN {\"and\" PLAIN}.");
        e.so("1=1 and 1=1 and 1=1", true);
        e.so("1=1 and 1=1 and 1=2", false);
        e.so("1=1 or 1=1 and 1=2", true);
        e.so("1=2 and 1=1 or 1=1", true);
        e.so("1=2 and (1=1 or 1=1)", false);
        e.faultOfLaw("bars if 1=1 and", 15);
        e.faultOfLaw("bars if 1=1 and or 1=1", 16);
        e.says("PLAIN: \"not\" PLAIN | \"(\" TEST \")\" | SUM (\"<\" | \">\" | \"=\") SUM.");
        e.so("not 1=1", false);
        e.so("not not 1=1", true);
        e.so("not 1=1 or 1=1", true);
        e.so("not (1=1 or 1=1)", false);
        e.so("not 1=2 and 1=2", false);
        e.so("2<3", true);
        e.so("3<3", false);
        e.so("3>2", true);
        e.so("3>3", false);
        e.so("3=3", true);
        e.so("3=2", false);
        e.so("0-1<0", true);
        e.faultOfLaw("bars if 1", 9);
        e.faultOfLaw("bars if (1=1", 12);
        e.faultOfLaw("bars if 1=1)", 11);
        e.faultOfLaw("bars if ()", 9);
        e.faultOfLaw("bars if 1=1=1", 11);
        e.faultOfLaw("bars if not", 11);
        e.faultOfLaw("bars if (1)=1", 10);
    }

    private void sums() {
        e.says("SUM: TERM {(\"+\" | \"-\") TERM}.");
        e.priced("90-30-20+1", 41);
        e.priced("90-[30-20]+1", 81);
        e.faultOfLaw("prices 1+", 9);
        e.faultOfLaw("prices +1", 7);
        e.faultOfLaw("prices -1", 7);
        e.faultOfLaw("prices 1+-1", 9);
        e.says("TERM: PART {(\"*\" | \"/\" | \"%\") PART}.");
        e.priced("1+2*3", 7);
        e.priced("[1+2]*3", 9);
        e.priced("90/4*4", 88);
        e.priced("90/[4*4]", 5);
        e.priced("90%7*3", 18);
        e.priced("50-9%5", 46);
        e.faultOfLaw("prices 1*", 9);
        e.faultOfLaw("prices 1*/1", 9);
    }

    private void parts() {
        e.says("PART: NUMBER (to 1,000) | \"[\" SUM \"]\" | a word, as told.");
        e.priced("0+7", 7);
        e.priced("1000-930", 70);
        e.priced("00001000/20", 50);
        e.faultOfLaw("prices 1001", 7);
        e.faultOfLaw("prices 01001", 7);
        e.faultOfLaw("prices 4294967296", 7);
        e.faultOfLaw("prices 18446744073709551617", 7);
        e.faultOfLaw("bars if 1=1001", 10);
        e.faultOfOrders("renew 1001", 6);
        e.priced("[7]", 7);
        e.priced("term+4", 7);
        e.faultOfLaw("prices [7", 9);
        e.faultOfLaw("prices []", 8);
        e.faultOfLaw("prices 7]", 8);
        e.faultOfLaw("prices (7)", 7);
        e.faultOfLaw("prices word", 7);
        e.faultOfLaw("prices prices", 7);
        e.faultOfLaw("prices if", 7);
    }

    private void limits() {
        e.says("50 PARTS that are NUMBERS and words (FAULT at the 51st)");
        e.right("prices " + Check.many("1", "+", 50));
        e.faultOfLaw("prices " + Check.many("1", "+", 51), 107);
        e.faultOfLaw("prices " + Check.many("1", "+", 50) + "+[[ dead]]", 110);
        e.right("prices " + Check.many("year", "+", 50));
        e.faultOfLaw("prices " + Check.many("year", "+", 51), 257);
        e.right("prices " + Check.many("1", "+", 24) + ";bars if " + Check.many("1", "+", 13) + "=" + Check.many("mood", "*", 13));
        e.faultOfLaw("prices " + Check.many("1", "+", 24) + ";bars if " + Check.many("1", "+", 13) + "=" + Check.many("mood", "*", 14), 154);
        e.right("prices " + Check.many("[1]", "+", 50));
        e.faultOfLaw("prices " + Check.many("1", "+", 50) + "+", 107);
        e.faultOfLaw("prices " + Check.many("1", "+", 50) + "+;bars", 107);
        e.faultOfLaw("prices " + Check.many("1", "+", 50) + "+ if 1=1", 108);
        // Each TEXT has its own 50, however many were read ahead of it, and it is read whole.
        VaultLeases x = Check.small();
        for (int i = 0; i < 6; i++) {
            e.law(x, "prices " + i + "+" + Check.many("1", "+", 50), -6);
            e.law(x, "prices " + i + "+" + Check.many("1", "+", 49), i);
            x.force(i);
            e.due("all 50 count", x.of(0, 4), 49 + i);
        }
        e.faultOfOrders("knock " + Check.many("1", "*", 51), 106);
        e.orders(Check.small(), "knock " + Check.many("0", "*", 50), 1);
        e.says(", 8 brackets of both kinds within one another (FAULT at the 9th) at most.");
        e.right("prices " + "[".repeat(8) + "1" + "]".repeat(8));
        e.faultOfLaw("prices " + "[".repeat(9) + "1" + "]".repeat(9), 15);
        e.right("bars if " + "(".repeat(8) + "1=1" + ")".repeat(8));
        e.faultOfLaw("bars if " + "(".repeat(9) + "1=1" + ")".repeat(9), 16);
        e.right("bars if ((((([[[1]]]=[[[1]]])))))");
        e.faultOfLaw("bars if ((((([[[1]]]=[[[[1]]]])))))", 24);
        e.right("bars if " + Check.many("((((([[[1]]]=1)))))", "or", 12));
        e.right("bars if " + "not(".repeat(8) + "1=1" + ")".repeat(8) + ";lasts " + "[".repeat(8) + "1" + "]".repeat(8));
        e.faultOfOrders("pass if (((((((([1]=1))))))))", 16);
        e.faultOfOrders("renew [[[[[[[[[0]]]]]]]]]", 14);
        e.orders(Check.small(), "renew [[[[[[[[0]]]]]]]] if ((((((((1=1))))))))", 1);
    }

    private void faults() {
        e.says("FAULT: the first TOKEN that can't go on there (the end's: the TEXT's length).");
        e.faultOfLaw("prices", 6);
        e.faultOfLaw("prices   ", 9);
        e.faultOfLaw("", 0);
        e.faultOfLaw(" ", 1);
        e.faultOfLaw("   prises 1 ? ?", 3);
        e.faultOfLaw("prices 1 if 1=1 ] ? ?", 16);
        e.faultOfLaw("prices 1001 ; ?", 7);
        e.faultOfLaw("prices [1+]", 10);
        e.faultOfLaw("prices 1 if 1=", 14);
        e.faultOfOrders("lodge 1", 7);
        e.faultOfOrders("lodge 1   ", 10);
        e.faultOfOrders("lodge 1 times 2", 8);
    }

    private void broken() {
        e.says("Beyond 1,000,000,000 either way");
        e.priced("1000*1000*1000/1000/1000/100", 10);
        e.priced("[1000*1000*1000+1]/1000/1000/100", 50);
        e.priced("[1000*1000*999+1000*1000-1+1]/1000/1000/100", 10);
        e.priced("[0-1000*1000*1000]/1000/1000/100+90", 80);
        e.priced("[0-1000*1000*1000-1]/1000/1000/100+90", 50);
        e.priced("[0-1000]*1000*1000/1000/1000/100+90", 80);
        e.priced("[0-1000]*1000*1000*2/1000/1000/100+90", 50);
        e.priced("1000*1000*1000*1000*1000*1000*1000*1000*1000*0", 50);
        e.priced("1000*1000*1000*1000*1000*1000*1000", 50);
        e.priced("0*1000*1000*1000*1000*1000+8", 8);
        e.so("1000*1000*1000=1000*1000*1000", true);
        e.so("0-1000*1000*1000<1000*1000*1000", true);
        e.says(", or divided by 0 (/ cut towards 0, % what is left then)");
        e.priced("7/[3-term]", 50);
        e.priced("7%[3-term]", 50);
        e.priced("0/0", 50);
        e.priced("0%0", 50);
        e.priced("0/7+1", 1);
        e.priced("7/2", 3);
        e.priced("[0-7]/2+20", 17);
        e.priced("7/[0-2]+20", 17);
        e.priced("[0-7]/[0-2]+20", 23);
        e.priced("7%4", 3);
        e.priced("[0-7]%4+20", 17);
        e.priced("7%[0-4]+20", 23);
        e.priced("[0-7]%[0-4]+20", 17);
        e.priced("7%7+9", 9);
        e.says(", a SUM, a TEST is BROKEN");
        e.priced("7+0*[1/0]", 50);
        e.priced("7 if 1/0=1", 50);
        e.priced("7 if not 1/0=1", 50);
        e.priced("7 if 1<1%0", 50);
        e.priced("7 if 1000*1000*1000<1000*1000*1000+1", 50);
        e.priced("7 if (1/0=1)", 50);
    }

    private void whatStandsBehind() {
        e.says("(\"or\", \"and\" ask what stands behind only if it can still matter).");
        e.so("1=1 or 1/0=1", true);
        e.so("1=2 or 1/0=1", false);
        e.so("not(1=2 or 1/0=1)", false);
        e.so("1/0=1 or 1=1", false);
        e.so("1=1 or 1=2 or 1/0=1", true);
        e.so("1=2 or 1=1 or 1/0=1", true);
        e.so("1=2 or 1/0=1 or 1=1", false);
        e.so("not(1=2 and 1/0=1)", true);
        e.so("not(1=1 and 1/0=1)", false);
        e.so("not(1/0=1 and 1=2)", false);
        e.so("not(1=1 and 1=2 and 1/0=1)", true);
        e.so("1=2 and 1/0=1 or 1=1", true);
        e.so("1=1 or 1/0=1 and 1/0=1", true);
        e.so("1=1 and 1=1 or 1/0=1", true);
        e.so("(1=2 and 1/0=1 or 1=1) and (1=1 or 1/0=1)", true);
    }
}
