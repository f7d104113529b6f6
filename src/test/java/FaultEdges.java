/** Edges of promise 5 and of the faults in part I of the terms. */
final class FaultEdges {
    private static final String FIELD = "field f lure 1;";

    private FaultEdges() {
    }

    static void run() {
        firstAlong();
        whole();
        nameAsked();
        numberAsked();
        tooSoon();
        numbers();
        names();
        deep();
        notUntilItsFactEnds();
        many();
        whateverStandsThere();
        latest();
    }

    private static void firstAlong() {
        Edge e = Edge.of(4, "FAULTS, the first along the text");
        e.fault("field f lure 10;?", 2, 13);
        e.fault("field to lure 10;", 1, 6);
        e.fault("field f lure 1?;field f lure 1;", 1, 14);
        e.fault(FIELD + "field f lure 10;", 3, 21);
        e.fault(FIELD + "sheep s at g curious 10;", 3, 26);
        e.fault("lures (((((((1);lures 1;", 4, 12);
        e.fault("lures 1;lures (((((((1)", 5, 8);
        e.fault("lures ((((((1;", 1, 13);
        e.fault(FIELD + "gap f to f miles 0;", 3, 24);
    }

    private static void whole() {
        Edge e = Edge.of(4, "1 the first byte with which no such text goes on (words and numbers whole, at their"
                + " first byte");
        e.fault("fiel f lure 1;", 1, 0);
        e.fault("fieldd f lure 1;", 1, 0);
        e.fault(" field f lurex 1;", 1, 9);
        e.fault("field f lures 1;", 1, 8);
        e.fault("field 12 lure 1;", 1, 6);
        e.fault("12 f lure 1;", 1, 0);
        e.fault("field f 12;", 1, 8);
        e.fault("field f lure lure;", 1, 13);
        e.fault("field f lure 1 to;", 1, 15);
        e.fault("field f lure 1 12;", 1, 15);
        e.fault("field f lure 1,", 1, 14);
        e.fault("field f lure 1:", 1, 14);
        e.fault("field f lure 1; abcdefgh", 1, 16);
        e.fault("lures abcdefgh;", 1, 6);
        e.fault("stays 1=1 andor 1=1;", 1, 10);
        e.fault("stays 1=1 an 1=1;", 1, 10);
        e.good(FIELD, 1);
    }

    private static void nameAsked() {
        Edge e = Edge.of(4, "where a NAME is asked, an OWN WORD so, a 7th letter at itself");
        e.fault("field lure lure 1;", 1, 6);
        e.fault("field number lure 1;", 1, 6);
        e.fault("field curious lure 1;", 1, 6);
        e.good("field curiou lure 1;", 1);
        e.fault("field curiour lure 1;", 1, 12);
        e.fault("field curiousc lure 1;", 1, 12);
        e.good("field abcdef lure 1;", 1);
        e.fault("field abcdefg", 1, 12);
        e.fault("field abcdefghijklmnop lure 1;", 1, 12);
        e.fault("field   abcdefg lure 1;", 1, 14);
        e.fault(FIELD + "gap abcdefg to f miles 1;", 1, 25);
        e.fault(FIELD + "gap f to abcdefg miles 1;", 1, 30);
        e.fault(FIELD + "gap f abcdefg f miles 1;", 1, 21);
    }

    private static void numberAsked() {
        Edge e = Edge.of(4, "where a number is asked, a 5th digit at itself");
        e.good("field f lure 0001;", 1);
        e.fault("field f lure 00001;", 1, 17);
        e.fault("field f lure 000001;", 1, 17);
        e.fault("field f lure 99999;", 1, 17);
        e.fault("storm 10000;", 1, 10);
        e.fault("shut 00000;", 1, 9);
        e.good("worth 9999;", 1);
        e.fault("worth 10000;", 1, 10);
        e.fault("worth 1+99999999999999999999;", 1, 12);
        e.fault("worth min(0001,00001);", 1, 19);
        e.fault("stays 1=00001;", 1, 12);
        e.fault("field 12345 lure 1;", 1, 6);
        e.fault("field f lure 1 12345;", 1, 15);
    }

    private static void tooSoon() {
        Edge e = Edge.of(4, "at the text's length, if it ends too soon)");
        String text = "field f lure 1;";
        int[] places = {-1, 0, 0, 0, 0, 5, 6, 7, 8, 8, 8, 8, 12, 13, 14, -1};
        for (int n = 0; n <= text.length(); n++) {
            String cut = text.substring(0, n);
            if (places[n] == -1) {
                e.good(cut, n == 0 ? 0 : 1);
            } else {
                e.fault(cut, 1, places[n]);
            }
        }
        e.fault("field \n ", 1, 8);
        e.fault(FIELD + "field", 1, 20);
        for (String formula : new String[] {"worth", "worth 1+", "worth (", "worth (1", "worth min", "worth min(1", "worth min(1,",
            "worth 1", "stays", "stays not", "stays [", "stays [all", "stays 1", "stays 1<", "stays all or", "stays all and"}) {
            e.fault(formula, 1, formula.length());
            e.fault(formula + "  ", 1, formula.length() + 2);
        }
    }

    private static void numbers() {
        Edge e = Edge.of(4, "2 a number that can't be, at it");
        e.good("field f lure 9;", 1);
        e.fault("field f lure 10;", 2, 13);
        e.fault("field f lure   10", 2, 15);
        e.fault("field f lure 0010;", 2, 13);
        e.fault("field f lure 10x", 2, 13);
        e.fault("storm 0101", 2, 6);
        e.good("storm 0100;", 1);
        e.fault("shut 0000", 2, 5);
        e.fault(FIELD + "sheep s at f curious 10", 2, 36);
        e.fault(FIELD + "field g lure 1;gap f to g miles 0000", 2, 47);
        e.good(FIELD + "field g lure 1;gap f to g miles 0001;", 3);
    }

    private static void names() {
        Edge e = Edge.of(4, "3 a NAME to be given that is there already, one that is none of a FIELD, a second FIELD"
                + " like the first, at it");
        String land = FIELD + "field g lure 1;sheep s at f curious 1;";
        e.fault(land + "field g", 3, 59);
        e.fault(land + "field s", 3, 59);
        e.fault(land + "sheep f", 3, 59);
        e.fault(land + "sheep s", 3, 59);
        e.good(land + "sheep t at g curious 0;field h lure 0;", 5);
        e.fault(land + "gap s", 3, 57);
        e.fault(land + "gap x", 3, 57);
        e.fault(land + "gap f to s", 3, 62);
        e.fault(land + "gap f to x", 3, 62);
        e.fault(land + "gap f to f", 3, 62);
        e.fault(land + "gap g to   g", 3, 64);
        e.fault(land + "sheep t at s", 3, 64);
        e.fault(land + "sheep t at t", 3, 64);
        e.good(land + "gap f to g miles 1;gap g to f miles 1;", 5);
    }

    private static void deep() {
        Edge e = Edge.of(4, "4 the 7th of ( [ not that is open at once (not until its FACT ends), at it");
        for (int n = 5; n <= 8; n++) {
            String sum = "worth " + "(".repeat(n) + "1" + ")".repeat(n) + ";";
            String test = "stays " + "[".repeat(n) + "all" + "]".repeat(n) + ";";
            String not = "stays " + "not ".repeat(n) + "all;";
            String min = "worth " + "min(".repeat(n) + "1" + ",1)".repeat(n) + ";";
            if (n <= 6) {
                e.good(sum + test, 2);
                e.good(not + min, 2);
            } else {
                e.fault(sum, 4, 12);
                e.fault(test, 4, 12);
                e.fault(not, 4, 30);
                e.fault(min, 4, 33);
            }
        }
        e.good("stays not [not [(min(1,2))=1]];", 1);
        e.fault("stays not [not [(min(max(1,2),2))=1]];", 4, 24);
        e.fault("stays not [not [not [not all]]];", 4, 21);
        e.good("stays not [not [not [all]]] and not [not [not [all]]];", 1);
        e.fault("worth ((((((1)(1))))));", 1, 14);
        e.fault("worth ((((((min 1))))));", 1, 16);
        e.fault("worth ((((((min (", 4, 16);
        e.fault("worth ((((((1]", 1, 13);
        e.good("worth ((((((1))))))+((((((1))))))*((((((1))))));", 1);
        e.good("worth (((((1)+(2))+(3))+(4))+(5))+(6);", 1);
    }

    private static void notUntilItsFactEnds() {
        Edge e = Edge.of(4, "(not until its FACT ends)");
        e.good("stays not (((((1)))))=1;", 1);
        e.fault("stays not ((((((1))))))=1;", 4, 15);
        e.fault("stays not 1=((((((1))))));", 4, 17);
        e.good("stays not 1=1 and ((((((1))))))=1;", 1);
        e.good("stays not 1=1 or ((((((1))))))=1;", 1);
        e.good("stays not not not not not not 1=1 and not not not not not not 1=1;", 1);
        e.fault("stays not not not not not not (1)=1;", 4, 30);
        e.good("stays [not [not [all]] and not not not not not all];", 1);
        e.fault("stays [not [not [all]] and not not not not not not all];", 4, 47);
    }

    private static void many() {
        Edge e = Edge.of(4, "5 one too many of a kind (a second lures, stays, worth, too), a 61st STATEMENT (whatever"
                + " stands there), at its first byte.");
        String fields = TextEdges.fields(8);
        e.fault(fields + "field", 5, 120);
        e.fault(fields + " \nfield z lure 1;", 5, 122);
        e.fault(fields + "fiel", 1, 120);
        e.fault(fields + "fieldx", 1, 120);
        String gaps = fields + "gap a to b miles 1;".repeat(10);
        e.fault(gaps + "gap", 5, 310);
        e.good(gaps + "shut 0;", 19);
        String sheep = fields + TextEdges.sheep(6, "a");
        e.fault(sheep + "sheep", 5, 258);
        e.good(sheep + "storm 1;", 15);
        e.fault("lures 1; lures", 5, 9);
        e.fault("stays all; stays", 5, 11);
        e.fault("worth 1; worth", 5, 9);
        e.fault("lures 1; lure", 1, 9);
    }

    private static void whateverStandsThere() {
        Edge e = Edge.of(4, "a 61st STATEMENT (whatever stands there)");
        String sixty = "storm 0;".repeat(60);
        for (String more : new String[] {"storm 0;", "storm", "field f lure 1;", "x", "5", "12345", ";", "?", "abcdefgh", "(", "\t",
            "\0", "\u00ff", "lures 1;"}) {
            e.fault(sixty + more, 5, 480);
            e.fault(sixty + " \n" + more, 5, 482);
        }
        e.good(sixty + " \n ", 60);
        e.fault("storm 0;".repeat(59) + "?", 1, 472);
        e.good("storm 0;".repeat(59) + "lures 1;", 60);
    }

    private static void latest() {
        Edge e = Edge.of(5, "Of the latest upland() or ask(): its FAULT (what 0; 0 without, and ahead of any), its"
                + " place (1; NONE without). NONE for another what.");
        StrayWool x = new StrayWool();
        e.are("ahead of any", faults(x), -1, 0, -1, -1);
        Due.upland(x, "?");
        e.are("an upland's", faults(x), -1, 1, 0, -1);
        Due.ask(x, "total ?");
        e.are("a question's", faults(x), -1, 1, 6, -1);
        x.feel();
        x.on();
        x.days(0);
        e.are("others leave it", faults(x), -1, 1, 6, -1);
        Due.ask(x, "total 1");
        e.are("a question without", faults(x), -1, 0, -1, -1);
        Due.upland(x, "storm 101;");
        e.are("an upland's again", faults(x), -1, 2, 6, -1);
        Due.upland(x, "storm 100;");
        e.are("an upland without", faults(x), -1, 0, -1, -1);
        e.is("what least", x.fault(Integer.MIN_VALUE), -1);
        e.is("what most", x.fault(Integer.MAX_VALUE), -1);
    }

    /** For what -1, 0, 1, 2. */
    private static int[] faults(StrayWool x) {
        return new int[] {x.fault(-1), x.fault(0), x.fault(1), x.fault(2)};
    }
}
