/** Edges of formulas, part I of the terms: promises 12, 13, 35, where their answers are seen. */
final class FormulaEdges {
    /** One sheep: curious 4, at b of lure 7 behind a day, wool 3, crimp 1. */
    private static final String LAND = "field a lure 2;field b lure 7;gap a to b miles 3;sheep s at a curious 4;";
    private static final String MILLION = "1000*1000";

    private FormulaEdges() {
    }

    static void run() {
        tests();
        signs();
        sums();
        digits();
        parts();
        wordsOfEachUse();
        valuesInLures();
        valuesInStays();
        valuesInWorth();
        divided();
        cutAbove();
        cutBelow();
        without();
    }

    private static void sum(Edge e, String sum, long want) {
        e.asks(Due.land(LAND), "most " + sum, want);
    }

    /** The same TEST of a question and of stays. */
    private static void test(Edge e, String test, boolean want) {
        e.asks(Due.land(LAND), "often " + test, want ? 1 : 0);
        e.is("stays " + test, Due.land(LAND + "stays " + test + ";").strays(0), want ? -1 : 0);
    }

    private static void tests() {
        Edge e = Edge.of(12, "TEST: BOTH { or BOTH }. BOTH: FACT { and FACT }. FACT: not FACT; [ TEST ] ; all; SUM"
                + " SIGN SUM, SIGN < or > or = .");
        String yes = "all";
        String no = "not all";
        test(e, yes, true);
        test(e, no, false);
        test(e, "not not all", true);
        test(e, yes + " or " + no, true);
        test(e, no + " or " + yes, true);
        test(e, no + " or " + no, false);
        test(e, no + " or " + no + " or " + yes, true);
        test(e, yes + " and " + yes, true);
        test(e, yes + " and " + no, false);
        test(e, no + " and " + yes, false);
        test(e, yes + " and " + yes + " and " + no, false);
        test(e, "all or all and not all", true);
        test(e, "not all and all or all", true);
        test(e, "[all or all] and not all", false);
        test(e, "not all and [all or all]", false);
        test(e, "not all or all", true);
        test(e, "not [all or all]", false);
        test(e, "all and [all]", true);
        test(e, "all and [all or not all]", true);
        test(e, "all and [not all or not all]", false);
        test(e, "not all or [all]", true);
        test(e, "all and [all and [all or all]]", true);
        test(e, "1+1=2 and [2=1+1]", true);
        test(e, "not 1=2 and 1=1", true);
        test(e, "not [1=2 and 1=1]", true);
        test(e, "not 1=1 and 1=2", false);
        test(e, "not [1=1 and 1=2]", true);
    }

    private static void signs() {
        Edge e = Edge.of(12, "SUM SIGN SUM, SIGN < or > or =");
        test(e, "2<1", false);
        test(e, "2<2", false);
        test(e, "2<3", true);
        test(e, "2>1", true);
        test(e, "2>2", false);
        test(e, "2>3", false);
        test(e, "2=1", false);
        test(e, "2=2", true);
        test(e, "2=3", false);
        test(e, "0-1<0", true);
        test(e, "0>0-1", true);
        test(e, "1+1=2*1", true);
    }

    private static void sums() {
        Edge e = Edge.of(13, "SUM: PRODUCT { + or - PRODUCT }. PRODUCT: PART { * or / PART }.");
        sum(e, "1", 1);
        sum(e, "1+2", 3);
        sum(e, "1-2", -1);
        sum(e, "10-3-2", 5);
        sum(e, "10-3+2", 9);
        sum(e, "2+3*4", 14);
        sum(e, "2*3+4", 10);
        sum(e, "20-12/4*3", 11);
        sum(e, "7/2*2", 6);
        sum(e, "7*2/2", 7);
        sum(e, "100/5/2", 10);
        sum(e, "0*0-0", 0);
    }

    private static void digits() {
        Edge e = Edge.of(13, "PART: N (1 to 4 digits); curious; wool; day; ( SUM ) ; min ( SUM , SUM ) ; max ( SUM ,"
                + " SUM ) ;");
        StrayWool x = Due.land(LAND);
        for (String n : new String[] {"0", "9", "10", "99", "100", "999", "1000", "9999", "0000", "0009"}) {
            sum(e, n, Integer.parseInt(n));
            e.is("worth " + n, Due.land(LAND + "worth " + n + ";").brings(0), Integer.parseInt(n));
        }
        e.askFault(x, "most ", 1, 5);
        e.askFault(x, "most 00000", 1, 9);
        e.askFault(x, "most 10000", 1, 9);
        e.askFault(x, "most 100000", 1, 9);
        e.fault("worth 10000;", 1, 10);
    }

    private static void parts() {
        Edge e = Edge.of(13, "( SUM ) ; min ( SUM , SUM ) ; max ( SUM , SUM ) ;");
        sum(e, "(2+3)*4", 20);
        sum(e, "20-(5-3)", 18);
        sum(e, "100/(5/2)", 50);
        sum(e, "min(1,2)", 1);
        sum(e, "min(2,2)", 2);
        sum(e, "min(2,1)", 1);
        sum(e, "max(1,2)", 2);
        sum(e, "max(2,2)", 2);
        sum(e, "max(2,1)", 2);
        sum(e, "min(0-1,0)", -1);
        sum(e, "max(0-1,0)", 0);
        sum(e, "max(0-1,0-2)", -1);
        sum(e, "min(1+1,3)*max(1,5-1)", 8);
        StrayWool x = Due.land(LAND);
        e.askFault(x, "most ()", 1, 6);
        e.askFault(x, "most min(1)", 1, 10);
        e.askFault(x, "most min(1,2,3)", 1, 12);
        e.askFault(x, "most min(1,)", 1, 11);
        e.askFault(x, "most (1,2)", 1, 7);
        e.askFault(x, "most min 1", 1, 9);
        e.askFault(x, "most -1", 1, 5);
    }

    private static void wordsOfEachUse() {
        Edge e = Edge.of(4, "in lures, stays: lure; seen; in lures: miles; in worth: crimp; led.");
        String words = "curious wool day lure seen miles crimp led number at lures stays worth storm field gap to shut sheep"
                + " or and not all first x";
        for (String word : words.split(" ")) {
            boolean any = "curious wool day".contains(word);
            boolean place = "lure seen".contains(word);
            boolean lures = any || place || word.equals("miles");
            boolean stays = any || place;
            boolean worth = any || word.equals("crimp") || word.equals("led");
            told(e, "lures 1+" + word + ";", lures);
            told(e, "stays 1+" + word + "=1;", stays);
            told(e, "worth 1+" + word + ";", worth);
        }
    }

    private static void told(Edge e, String text, boolean good) {
        if (good) {
            e.good(text, 1);
        } else {
            e.fault(text, 1, 8);
        }
    }

    private static void lures(Edge e, String formula, int want) {
        StrayWool x = Due.land("field c lure 0;" + LAND + "gap b to c miles 9;stays day>0;lures " + formula + ";");
        Put.times(x, 0, 1, 12);
        Put.times(x, 0, 2, 34);
        Put.day(x, 567);
        Put.miles(x, 0, 89);
        e.asks(x, "most lures 0", want);
        Put.field(x, 0, 2);
        e.asks(x, "most lures 0", formula.equals("lure") ? 2 : formula.equals("seen") ? 12 : want);
    }

    private static void valuesInLures() {
        Edge e = Edge.of(35, "(Of the SHEEP how curious it is, how many miles are in its WOOL, its CRIMP, 1 if it is"
                + " LED, else 0; the DAY;"
                + " what lures in the FIELD beyond the GAP, how many times it has been there, in stays in its own"
                + " FIELD;"
                + " of the GAP its miles.)");
        lures(e, "curious", 4);
        lures(e, "wool", 89);
        lures(e, "day", 567);
        lures(e, "lure", 7);
        lures(e, "seen", 34);
        lures(e, "miles", 3);
    }

    private static void valuesInStays() {
        Edge e = Edge.of(12, "in stays in its own FIELD");
        StrayWool own = Due.land(LAND + "stays lure=2;");
        e.is("lure of its own field", own.strays(0), -1);
        e.is("not of the one beyond", Due.land(LAND + "stays lure=7;").strays(0), 0);
        for (int times = 4; times <= 6; times++) {
            StrayWool x = Due.land(LAND + "stays seen=5;");
            Put.times(x, 0, 0, times);
            Put.times(x, 0, 1, 5);
            e.is("seen " + times + " times in its own field", x.strays(0), times == 5 ? -1 : 0);
            StrayWool more = Due.land(LAND + "stays day=5;");
            Put.day(more, times);
            e.is("day " + times, more.strays(0), times == 5 ? -1 : 0);
            StrayWool wool = Due.land(LAND + "stays wool=5;");
            Put.miles(wool, 0, times);
            e.is("wool " + times, wool.strays(0), times == 5 ? -1 : 0);
            e.is("curious " + times, Due.land(LAND + "stays curious=" + times + ";").strays(0), times == 4 ? -1 : 0);
        }
    }

    private static void valuesInWorth() {
        Edge e = Edge.of(13, "its CRIMP, 1 if it is LED, else 0; the DAY");
        StrayWool x = Due.land(LAND + "worth crimp*100+led*10+day;");
        e.is("at first", x.brings(0), 0);
        x.lead(0, 0);
        e.is("led", x.brings(0), 110);
        Put.led(x, 0, 0);
        e.is("not led", x.brings(0), 100);
        Put.crimp(x, 0, 63);
        Put.day(x, 9);
        e.is("crimp 63, day 9", x.brings(0), 6309);
        StrayWool wool = Due.land(LAND + "worth wool*10+curious;");
        Put.miles(wool, 0, 999);
        e.is("wool 999, curious 4", wool.brings(0), 9994);
    }

    private static void divided() {
        Edge e = Edge.of(13, "All from the left on; / gives the greatest whole number not above, by 0 it gives 0");
        int[][] rows = {{5, 2, 2}, {6, 2, 3}, {7, 2, 3}, {1, 2, 0}, {0, 2, 0}, {2, 2, 1}, {9999, 1, 9999}, {1, 9999, 0}};
        for (int[] row : rows) {
            sum(e, row[0] + "/" + row[1], row[2]);
        }
        sum(e, "(0-1)/2", -1);
        sum(e, "(0-2)/2", -1);
        sum(e, "(0-3)/2", -2);
        sum(e, "3/(0-2)", -2);
        sum(e, "4/(0-2)", -2);
        sum(e, "5/(0-2)", -3);
        sum(e, "(0-5)/(0-2)", 2);
        sum(e, "(0-4)/(0-2)", 2);
        sum(e, "(0-1)/9999", -1);
        sum(e, "1/(0-9999)", -1);
        sum(e, "(0-" + MILLION + ")/(0-1)", 1000000);
        sum(e, MILLION + "/(0-1)", -1000000);
        sum(e, "7/1", 7);
        sum(e, "7/0", 0);
        sum(e, "7/(0-1)", -7);
        sum(e, "0/0", 0);
        sum(e, "(0-7)/0", 0);
        sum(e, "7/0+5", 5);
        sum(e, "7/0*5", 0);
        sum(e, "7/(3-3)/0", 0);
    }

    private static void cutAbove() {
        Edge e = Edge.of(13, "each sum, difference, product above 10 to the 6 is that, below -10 to the 6 likewise.");
        sum(e, MILLION + "-1", 999999);
        sum(e, MILLION, 1000000);
        sum(e, MILLION + "+0", 1000000);
        sum(e, MILLION + "+1", 1000000);
        sum(e, MILLION + "+1-1", 999999);
        sum(e, MILLION + "+" + MILLION + "-1", 999999);
        sum(e, "999*1001+1", 1000000);
        sum(e, "999*1001", 999999);
        sum(e, "101*9901", 1000000);
        sum(e, "101*9901-1", 999999);
        sum(e, "9999*9999/1000", 1000);
        sum(e, "9999*9999*9999*9999-1", 999999);
        sum(e, MILLION + "*(0-1)*(0-9999)-1", 999999);
        sum(e, "0-(0-" + MILLION + ")+1", 1000000);
        sum(e, "1-(0-" + MILLION + ")-1", 999999);
    }

    private static void cutBelow() {
        Edge e = Edge.of(13, "below -10 to the 6 likewise");
        sum(e, "1-" + MILLION, -999999);
        sum(e, "0-" + MILLION, -1000000);
        sum(e, "0-" + MILLION + "-0", -1000000);
        sum(e, "0-" + MILLION + "-1", -1000000);
        sum(e, "0-" + MILLION + "-1+1", -999999);
        sum(e, "(0-999)*1001", -999999);
        sum(e, "(0-999)*1001-1", -1000000);
        sum(e, "(0-101)*9901", -1000000);
        sum(e, "(0-101)*9901+1", -999999);
        sum(e, "(0-9999)*9999*9999+1", -999999);
        sum(e, "(0-" + MILLION + ")+(0-1)+1", -999999);
        sum(e, "(0-" + MILLION + ")*" + MILLION + "*" + MILLION + "+1", -999999);
    }

    private static void without() {
        Edge e = Edge.of(12, "Without: lures is lure-seen, stays is never, worth is wool.");
        StrayWool x = Due.land("field a lure 2;field b lure 7;gap a to b miles 3;sheep s at a curious 4;");
        for (int times = 6; times <= 8; times++) {
            Put.times(x, 0, 1, times);
            e.asks(x, "most lures 0", 7 - times);
            e.is("strays, been there " + times + " times", x.strays(0), times < 7 ? 0 : -1);
        }
        Put.times(x, 0, 1, 0);
        for (int miles : new int[] {0, 1, 998, 999}) {
            Put.miles(x, 0, miles);
            e.is("worth of " + miles, x.brings(0), miles);
            e.is("never stays with " + miles, x.strays(0), 0);
        }
        Put.day(x, 998);
        Put.times(x, 0, 0, 99);
        e.is("never stays late", x.strays(0), 0);
    }
}
