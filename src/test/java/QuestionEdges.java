/** Edges of promise 35 and of part IV of the terms: questions. */
final class QuestionEdges {
    private QuestionEdges() {
    }

    static void run() {
        words();
        withoutSheep();
        totals();
        parts();
        seenPart();
        luresPart();
        nested();
        faults();
        behind();
        deep();
        untilItsPartEnds();
        answered();
        constants();
    }

    /** Six sheep, curious 4 to 9. */
    private static StrayWool six() {
        return Due.land(LandEdges.full());
    }

    private static void words() {
        Edge e = Edge.of(35, "A QUESTION is a text, of all SHEEP: first TEST, last TEST (the first, the last SHEEP"
                + " for which it holds), often TEST (for how many),"
                + " total SUM (of all together), most SUM, least SUM (the greatest, the least of all; 0 without"
                + " SHEEP).");
        StrayWool x = six();
        e.asks(x, "first all", 0);
        e.asks(x, "last all", 5);
        e.asks(x, "often all", 6);
        e.asks(x, "first number=5", 5);
        e.asks(x, "last number=0", 0);
        e.asks(x, "first number>0 and number<5", 1);
        e.asks(x, "last number>0 and number<5", 4);
        e.asks(x, "often number>0 and number<5", 4);
        e.asks(x, "often number=3", 1);
        e.asks(x, "first not all", -1);
        e.asks(x, "last not all", -1);
        e.asks(x, "often not all", 0);
        e.asks(x, "total curious", 39);
        e.asks(x, "most curious", 9);
        e.asks(x, "least curious", 4);
        e.asks(x, "most 0-curious", -4);
        e.asks(x, "least 0-curious", -9);
        e.asks(x, "total 0-1", -6);
        e.asks(x, "most number*(5-number)", 6);
        e.asks(x, "least number*(5-number)", 0);
        e.asks(x, "least (number-2)*(number-2)-3", -3);
    }

    private static void withoutSheep() {
        Edge e = Edge.of(35, "0 without SHEEP");
        for (String land : new String[] {"", "field a lure 5;field b lure 5;gap a to b miles 1;"}) {
            StrayWool x = Due.land(land);
            e.asks(x, "first all", -1);
            e.asks(x, "last all", -1);
            e.asks(x, "often all", 0);
            e.asks(x, "total 7", 0);
            e.asks(x, "most 7", 0);
            e.asks(x, "least 7", 0);
            e.asks(x, "most 0-7", 0);
            e.asks(x, "least 0-7", 0);
        }
        StrayWool one = Due.land("field a lure 5;sheep s at a curious 0;");
        e.asks(one, "most 0-7", -7);
        e.asks(one, "least 7", 7);
        e.asks(one, "first all", 0);
    }

    private static void totals() {
        Edge e = Edge.of(35, "total SUM (of all together)");
        StrayWool x = six();
        e.asks(x, "total 1000*1000", 6000000);
        e.asks(x, "total 1000*1000+1", 6000000);
        e.asks(x, "total 1000*1000-1", 5999994);
        e.asks(x, "total 0-1000*1000-1", -6000000);
        e.asks(x, "most 1000*1000+number", 1000000);
        e.asks(x, "total 0", 0);
    }

    private static void parts() {
        Edge e = Edge.of(35, "TEST, SUM as in I, but PART: N; number; at; curious; wool; crimp; led; day; seen PART;"
                + " lures PART; ( SUM ) ;"
                + " min ( SUM , SUM ) ; max ( SUM , SUM ) .");
        StrayWool x = six();
        x.lead(5, 5);
        x.days(1);
        // Sheep 5 was led to fh and has strayed on from there; the day is 1.
        e.asks(x, "most number", 5);
        e.asks(x, "total at", 7 * 5 + x.sheep(5, 0));
        e.asks(x, "first number=5 and at=" + x.sheep(5, 0), 5);
        e.asks(x, "most curious", 9);
        e.asks(x, "total wool", x.has(6));
        e.asks(x, "first crimp=" + x.sheep(5, 3), 5);
        e.asks(x, "total led", 1);
        e.asks(x, "last led=1", 5);
        e.asks(x, "total day", 6);
        e.asks(x, "most 9999", 9999);
        e.asks(x, "total min(number,2)", 0 + 1 + 2 * 4);
        e.asks(x, "total max(number,2)", 2 * 3 + 3 + 4 + 5);
        e.asks(x, "total (number+1)*2", 42);
        for (String word : "lure miles lures seen stays worth storm field gap to shut sheep or and not all first total x sheepa".split(" ")) {
            if (!word.equals("lures") && !word.equals("seen")) {
                e.askFault(x, "total 1+" + word, 1, 8);
            }
        }
        e.askFault(x, "total seen", 1, 10);
        e.askFault(x, "total lures", 1, 11);
    }

    private static void seenPart() {
        Edge e = Edge.of(35, "(The SHEEP's number, that of its FIELD; how many times it has been in the FIELD of that"
                + " number, 0 of one that there is not;");
        StrayWool x = six();
        x.tell(5, 0, 31);
        x.tell(5, 7, 47);
        e.asks(x, "most seen 0", 31);
        e.asks(x, "total seen 0", 32);
        e.asks(x, "total seen 7", 47);
        e.asks(x, "total seen 8", 0);
        e.asks(x, "total seen 9999", 0);
        e.asks(x, "total seen (0-1)", 0);
        e.asks(x, "total seen (1000*1000)", 0);
        e.asks(x, "total seen (0-1000*1000)", 0);
        e.asks(x, "total seen at", 6);
        e.asks(x, "total seen number", 6);
        e.asks(x, "total at", 15);
        StrayWool one = Due.land("field a lure 5;sheep s at a curious 0;sheep t at a curious 0;");
        e.asks(one, "total seen 0", 2);
        e.asks(one, "total seen 1", 0);
    }

    private static void luresPart() {
        Edge e = Edge.of(35, "the SUM of lures for it now by the GAP of that number, 0 of one that does not lead from"
                + " its FIELD, or that there is not.)");
        StrayWool x = Due.land(LandEdges.full() + "lures miles*10+curious-seen;");
        // Gap 0 is at fa of sheep 0 alone, gap 9 at fc of sheep 2.
        e.asks(x, "total lures 0", 14);
        e.asks(x, "total lures 9", 16);
        e.asks(x, "last lures 9>0", 2);
        e.asks(x, "total lures 10", 0);
        e.asks(x, "total lures 9999", 0);
        e.asks(x, "total lures (0-1)", 0);
        x.tell(2, 7, 20);
        e.asks(x, "least lures 9", -4);
        e.asks(x, "most lures 9", 0);
        x.swing(9, 0);
        e.asks(x, "least lures 9", 0);
        StrayWool stays = Due.land(LandEdges.full() + "lures day+5;stays all;");
        e.asks(stays, "total lures 0", 5);
        stays.days(3);
        e.asks(stays, "total lures 0", 8);
        StrayWool other = Due.land("field a lure 3;field b lure 4;gap a to b miles 1;sheep s at a curious 0;sheep t at b curious 0;lures lure;");
        e.asks(other, "total lures 0*(1-number*2)", 4 - 3);
    }

    private static void nested() {
        Edge e = Edge.of(35, "seen PART; lures PART;");
        StrayWool x = six();
        x.tell(0, 1, 7);
        // For sheep 0: seen 0 is 1, seen 1 is 7, seen 7 is 0.
        e.asks(x, "most seen seen 0", 7);
        e.asks(x, "most seen seen seen 0", 0);
        e.asks(x, "most seen 0+1", 2);
        e.asks(x, "most seen (0+1)", 7);
        e.asks(x, "most seen 1*2", 14);
        e.asks(x, "most 100-seen 1-1", 99);
        e.asks(x, "least 100-seen 1-1", 92);
        e.asks(x, "most seen min(5,1)", 7);
        e.asks(x, "most lures seen 7", 8);
        // For sheep 2 that is the field 8, for the others 0.
        e.asks(x, "most seen lures 9", 1);
    }

    private static void faults() {
        Edge e = Edge.of(35, "Its FAULTS: 1 as in I (an unknown word at its first byte; what stands behind it, too)");
        StrayWool x = six();
        e.askFault(x, "", 1, 0);
        e.askFault(x, " \n", 1, 2);
        e.askFault(x, "firs all", 1, 0);
        e.askFault(x, "firstt all", 1, 0);
        e.askFault(x, "all", 1, 0);
        e.askFault(x, "5", 1, 0);
        e.askFault(x, "field a lure 1;", 1, 0);
        e.askFault(x, "first", 1, 5);
        e.askFault(x, "first ", 1, 6);
        e.askFault(x, "first 1", 1, 7);
        e.askFault(x, "first 1+1", 1, 9);
        e.askFault(x, "total all", 1, 6);
        e.askFault(x, "total abcdefgh", 1, 6);
        e.askFault(x, "total curiouss", 1, 6);
        e.askFault(x, "total 1234+12345", 1, 15);
        e.askFault(x, "total 1+", 1, 8);
        e.askFault(x, "total\t1", 1, 5);
        e.askFault(x, "total1", 1, 5);
        e.askFault(x, "total seen1", 1, 10);
        e.asks(x, "total 1234", 6 * 1234);
        e.asks(x, "\n total\n1 ", 6);
    }

    private static void behind() {
        Edge e = Edge.of(35, "what stands behind it, too");
        StrayWool x = six();
        e.asks(x, "total 1", 6);
        e.asks(x, "total 1 \n", 6);
        e.askFault(x, "total 1;", 1, 7);
        e.askFault(x, "total 1 ;", 1, 8);
        e.askFault(x, "total 1 x", 1, 8);
        e.askFault(x, "total 1 12345", 1, 8);
        e.askFault(x, "total 1 first all", 1, 8);
        e.askFault(x, "total 1)", 1, 7);
        e.askFault(x, "total 1=1", 1, 7);
        e.askFault(x, "first 1=1=1", 1, 9);
        e.askFault(x, "first all]", 1, 9);
        e.askFault(x, "first all all", 1, 10);
        e.askFault(x, "first all allx", 1, 10);
        e.askFault(x, "total 1\0", 1, 7);
        e.askFault(x, "total 1\u00ff", 1, 7);
    }

    private static void deep() {
        Edge e = Edge.of(35, "4 the 7th of ( [ not seen lures that is open at once (not until its FACT, seen, lures"
                + " until its PART ends), at it.");
        StrayWool x = six();
        for (int n = 5; n <= 7; n++) {
            deepOf(e, x, "total ", "(", "1", ")", n);
            deepOf(e, x, "total ", "min(", "1", ",1)", n);
            deepOf(e, x, "total ", "seen ", "1", "", n);
            deepOf(e, x, "total ", "lures ", "1", "", n);
            deepOf(e, x, "often ", "[", "all", "]", n);
            deepOf(e, x, "often ", "not ", "all", "", n);
        }
        e.is("three kinds, six", Due.ask(x, "often not [seen (lures (1))=1]") >= 0, true);
        e.is("three kinds, six", Due.ask(x, "often not [seen (lures (at))=1]") >= 0, true);
        e.askFault(x, "often not [seen (lures (seen 1))=1]", 4, 24);
        e.askFault(x, "often not [seen (lures ((1)))=1]", 4, 24);
        e.askFault(x, "often not not not not not not (1)=1", 4, 30);
        e.askFault(x, "often not not not not not not seen 1=1", 4, 30);
        e.askFault(x, "often not not not not not not lures 1=1", 4, 30);
        e.askFault(x, "often not not not not not not [all]", 4, 30);
        e.askFault(x, "total seen seen seen seen seen seen (1)", 4, 36);
        e.askFault(x, "total seen seen seen seen seen seen max(1,1)", 4, 39);
    }

    private static void deepOf(Edge e, StrayWool x, String word, String open, String inner, String close, int n) {
        String question = word + open.repeat(n) + inner + close.repeat(n);
        if (n <= 6) {
            e.is(question, Due.ask(x, question) != StrayWool.NOTHING, true);
            e.is("fault(0) of " + question, x.fault(0), 0);
        } else {
            // Of min( it is the bracket.
            e.askFault(x, question, 4, word.length() + 6 * open.length() + (open.equals("min(") ? 3 : 0));
        }
    }

    private static void untilItsPartEnds() {
        Edge e = Edge.of(35, "(not until its FACT, seen, lures until its PART ends)");
        StrayWool x = six();
        String[] good = {"total seen (((((1)))))+((((((1))))))", "total seen 1*((((((1))))))", "total lures 1/lures (((((1)))))",
            "often seen 1=((((((1))))))", "often not seen ((((1))))=1 and ((((((1))))))=1", "often not 1=1 or not (((((1)))))=1",
            "total seen seen seen seen seen seen 1+seen seen seen seen seen seen 1", "total min(seen ((((1)))),seen ((((1)))))"};
        for (String question : good) {
            e.is(question, Due.ask(x, question) != StrayWool.NOTHING, true);
            e.is("fault(0) of " + question, x.fault(0), 0);
        }
        e.askFault(x, "total seen ((((((1))))))", 4, 16);
        e.askFault(x, "often not seen (((((1)))))=1", 4, 19);
        e.askFault(x, "often not 1=((((((1))))))", 4, 17);
        e.askFault(x, "total min(seen ((((1)))),seen (((((1))))))", 4, 34);
    }

    private static void answered() {
        Edge e = Edge.of(35, "The tape (it goes) is a QUESTION: its answer; NONE of first, last, when its TEST holds"
                + " for none; NOTHING with a FAULT.");
        StrayWool x = six();
        Due.tape(x, Due.bytes("total number"));
        e.is("answered", x.ask(), 15);
        e.is("the tape goes", x.end(1), false);
        e.is("so the next is none", x.ask(), StrayWool.NOTHING);
        Due.tape(x, Due.bytes("total numbe"));
        e.is("with a fault", x.ask(), StrayWool.NOTHING);
        e.is("the tape goes all the same", x.end(1), false);
        e.asks(x, "first number=6", -1);
        e.asks(x, "last number=6", -1);
        e.asks(x, "first number=5", 5);
        e.asks(x, "last number=5", 5);
        e.are("nothing is refused, nothing done", new int[] {x.status(0), x.status(1), x.has(9)}, 2, 0, 0);
    }

    private static void constants() {
        Edge none = Edge.of(35, "The constants: `NONE = -1`: There is none; it is refused.");
        none.is("NONE", StrayWool.NONE, -1);
        none.is("none such", new StrayWool().lure(0), StrayWool.NONE);
        none.is("refused", new StrayWool().days(0), StrayWool.NONE);
        Edge nothing = Edge.of(35, "`NOTHING = -1000000000000000L`: Told where a number below 0 may be one.");
        nothing.is("NOTHING", StrayWool.NOTHING, -1000000000000000L);
        StrayWool x = six();
        nothing.asks(x, "least 0-1", -1);
        nothing.asks(x, "total 0-1000*1000", -6000000);
        nothing.is("a fault", Due.ask(x, "least"), StrayWool.NOTHING);
        nothing.is("ways", x.ways(8, 0, 0), StrayWool.NOTHING);
    }
}
