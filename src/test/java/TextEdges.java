import java.util.Arrays;

/** Edges of promise 4 and of part I of the terms: what statements tell. */
final class TextEdges {
    private static final String TWO = "field f lure 1;field g lure 1;";
    private static final String GAP = "gap f to g miles 1;";
    private static final int FIELD_LENGTH = 15;

    private TextEdges() {
    }

    static void run() {
        statements();
        fields();
        gaps();
        shut();
        sheep();
        formulasOnce();
        storm();
        letters();
        ownWords();
        unlike();
        toldAhead();
        blanks();
        uplandGoes();
        allStays();
        allAsAtFirst();
        behindOthers();
    }

    /** Fields a, b, c .. */
    static String fields(int n) {
        StringBuilder text = new StringBuilder();
        for (int i = 0; i < n; i++) {
            text.append("field ").append((char) ('a' + i)).append(" lure 1;");
        }
        return text.toString();
    }

    /** Sheep s, t, u .. at a field. */
    static String sheep(int n, String field) {
        StringBuilder text = new StringBuilder();
        for (int i = 0; i < n; i++) {
            text.append("sheep ").append((char) ('s' + i)).append(" at ").append(field).append(" curious 0;");
        }
        return text.toString();
    }

    private static void statements() {
        Edge e = Edge.of(4, "An UPLAND is a text: { STATEMENT ; } (60 at most)");
        for (int n : new int[] {0, 1, 59, 60}) {
            e.good("storm 0;".repeat(n), n);
            e.good("\n" + "storm 0 ; ".repeat(n), n);
        }
        e.fault("storm 0;".repeat(61), 5, 480);
        e.fault("storm 0;".repeat(62), 5, 480);
        e.fault(";", 1, 0);
        e.fault("storm 0;;", 1, 8);
        e.fault("storm 0", 1, 7);
    }

    private static void fields() {
        Edge e = Edge.of(4, "field NAME lure N (0 .. 9; 8 FIELDS)");
        for (int lure : new int[] {0, 1, 8, 9}) {
            e.is("lure " + lure, e.good("field f lure " + lure + ";", 1).lure(0), lure);
        }
        e.fault("field f lure 10;", 2, 13);
        e.fault("field f lure 9999;", 2, 13);
        e.fault("field f lure -1;", 1, 13);
        for (int n = 1; n <= 8; n++) {
            e.is(n + " fields", e.good(fields(n), n).has(0), n);
        }
        e.fault(fields(9), 5, 8 * FIELD_LENGTH);
    }

    private static void gaps() {
        Edge e = Edge.of(4, "gap NAME to NAME miles N (two unlike FIELDS; 1 .. 9; the next GAP; 10 GAPS,"
                + " as many between two as one likes; OPEN at first)");
        for (int miles : new int[] {1, 2, 8, 9}) {
            e.is("miles " + miles, e.good(TWO + "gap f to g miles " + miles + ";", 3).gap(0, 2), miles);
        }
        e.fault(TWO + "gap f to g miles 0;", 2, 47);
        e.fault(TWO + "gap f to g miles 10;", 2, 47);
        e.fault(TWO + "gap f to f miles 1;", 3, 39);
        e.fault(TWO + "gap g to g miles 1;", 3, 39);
        StrayWool both = e.good(TWO + GAP + "gap g to f miles 1;", 4);
        e.are("first fields", new int[] {both.gap(0, 0), both.gap(1, 0)}, 0, 1);
        e.are("other fields", new int[] {both.gap(0, 1), both.gap(1, 1)}, 1, 0);
        for (int n = 0; n <= 10; n++) {
            StrayWool x = e.good(TWO + GAP.repeat(n), 2 + n);
            e.is(n + " gaps", x.has(1), n);
            e.is(n + " open gaps", x.has(4), n);
            e.is("the last one", x.gap(n - 1, 3), n == 0 ? -1 : 1);
            e.is("the next one", x.gap(n, 3), -1);
        }
        e.fault(TWO + GAP.repeat(11), 5, 30 + 190);
    }

    private static void shut() {
        Edge e = Edge.of(4, "shut N (the number of a GAP that is told and OPEN: it is not OPEN at first)");
        e.fault("shut 0;", 2, 5);
        e.fault(TWO + "shut 0;", 2, 35);
        StrayWool first = e.good(TWO + GAP + GAP + "shut 0;", 5);
        e.are("shut 0", new int[] {first.gap(0, 3), first.gap(1, 3), first.has(4)}, 0, 1, 1);
        StrayWool second = e.good(TWO + GAP + GAP + "shut 1;", 5);
        e.are("shut 1", new int[] {second.gap(0, 3), second.gap(1, 3), second.has(4)}, 1, 0, 1);
        e.fault(TWO + GAP + GAP + "shut 2;", 2, 73);
        e.fault(TWO + GAP + "shut 1;" + GAP, 2, 54);
        e.is("a gap behind one that is shut", e.good(TWO + GAP + "shut 0;" + GAP, 5).has(4), 1);
        e.fault(TWO + GAP + "shut 0;shut 0;", 2, 61);
        e.fault(TWO + GAP + "shut 0;shut 0000;", 2, 61);
        e.is("the last of ten", e.good(TWO + GAP.repeat(10) + "shut 9;", 13).gap(9, 3), 0);
        e.fault(TWO + GAP.repeat(10) + "shut 10;", 2, 30 + 190 + 5);
        e.fault(TWO + GAP.repeat(10) + "shut 9999;", 2, 30 + 190 + 5);
        StrayWool all = e.good(TWO + GAP.repeat(10) + "shut 9;shut 8;shut 7;shut 6;shut 5;shut 4;shut 3;shut 2;shut 1;shut 0;", 22);
        e.is("all ten shut", all.has(4), 0);
    }

    private static void sheep() {
        Edge e = Edge.of(4, "sheep NAME at NAME curious N (a FIELD, its HOME; 0 .. 9; 6 SHEEP)");
        for (int curious : new int[] {0, 1, 8, 9}) {
            StrayWool x = e.good(TWO + "sheep s at g curious " + curious + ";", 3);
            e.is("curious " + curious, x.sheep(0, 1), curious);
            e.is("its home", x.sheep(0, 5), 1);
            e.is("its field", x.sheep(0, 0), 1);
        }
        e.fault(TWO + "sheep s at g curious 10;", 2, 51);
        e.fault(TWO + "sheep s at s curious 1;", 3, 41);
        e.fault(TWO + "sheep s at g curious 1;sheep t at s curious 1;", 3, 64);
        for (int n = 0; n <= 6; n++) {
            e.is(n + " sheep", e.good(TWO + sheep(n, "g"), 2 + n).has(2), n);
        }
        e.fault(TWO + sheep(7, "g"), 5, 30 + 6 * 23);
    }

    private static void formulasOnce() {
        Edge e = Edge.of(4, "lures SUM, stays TEST, worth SUM (one each)");
        String[] each = {"lures 1;", "stays 1=1;", "worth 1;"};
        for (String one : each) {
            e.good(one, 1);
            e.fault(one + one, 5, one.length());
            e.fault(one + "storm 1;" + one, 5, one.length() + 8);
            for (String other : each) {
                if (!one.equals(other)) {
                    e.good(one + other, 2);
                    e.fault(one + other + one, 5, one.length() + other.length());
                }
            }
        }
        e.good("worth 1;stays 1=1;lures 1;", 3);
        e.fault("lures 1=1;", 1, 7);
        e.fault("stays 1;", 1, 7);
        e.fault("worth all;", 1, 6);
    }

    private static int storms(Edge e, String text, int statements) {
        return e.good(TWO + GAP + text, 3 + statements).chance(100);
    }

    private static void storm() {
        Edge e = Edge.of(4, "storm N (0 .. 100; the last one counts, 0 without)");
        e.is("storm 0", storms(e, "storm 0;", 1), 0);
        e.is("storm 100", storms(e, "storm 100;", 1), 100);
        e.is("storm 1 is between", storms(e, "storm 1;", 1) < 20, true);
        e.is("storm 99 is between", storms(e, "storm 99;", 1) > 80, true);
        e.fault("storm 101;", 2, 6);
        e.is("the last one, 0", storms(e, "storm 100;storm 0;", 2), 0);
        e.is("the last one, 100", storms(e, "storm 0;storm 50;storm 100;", 3), 100);
        e.is("without", storms(e, "", 0), 0);
        String[] told = {"", "storm 0;", "storm 1;", "storm 99;", "storm 100;"};
        for (int i = 0; i < told.length; i++) {
            StrayWool x = e.good(TWO + GAP + told[i], i == 0 ? 3 : 4);
            x.seed(DayEdges.seedThatDraws(0));
            e.is("0 is drawn, " + told[i], x.chance(1), i < 2 ? 0 : 1);
            x.seed(DayEdges.seedThatDraws(99));
            e.is("99 is drawn, " + told[i], x.chance(1), i < 4 ? 0 : 1);
        }
    }

    private static void letters() {
        Edge e = Edge.of(4, "NAMES: 1 to 6 letters, no OWN WORD, unlike ones (of both sorts), told ahead of where"
                + " they are asked.");
        e.fault("field  lure 1;", 1, 7);
        e.fault("field ; lure 1;", 1, 6);
        String name = "zyxwvu";
        for (int n = 1; n <= 6; n++) {
            StrayWool x = e.good("field " + name.substring(0, n) + " lure 1;", 1);
            e.is("last letter of " + n, x.letter(0, 0, n - 1), 27 - n);
            e.is("behind " + n, x.letter(0, 0, n), n < 6 ? 0 : -1);
        }
        e.fault("field zyxwvut lure 1;", 1, 12);
        e.fault("field zyxwvuts lure 1;", 1, 12);
        e.fault(TWO + "sheep zyxwvut at f curious 1;", 1, 42);
        e.fault(TWO + "sheep zyxwvu at abcdefg curious 1;", 1, 52);
        for (char sign : new char[] {'`', '{', '@', '[', 'A', 'Z', '/', '0', '9', ':', '_', 0, 127, 128, 225, 255}) {
            e.fault("field " + sign + " lure 1;", 1, 6);
            e.fault("field a" + sign + " lure 1;", 1, 7);
        }
        e.is("a", e.good("field a lure 1;", 1).letter(0, 0, 0), 1);
        e.is("z", e.good("field z lure 1;", 1).letter(0, 0, 0), 26);
    }

    private static void ownWords() {
        Edge e = Edge.of(4, "OWN WORDS, which no NAME is: field, lure, gap, to, miles, shut, sheep, at, curious, lures,"
                + " stays, worth, storm, wool, day, seen, crimp, led, number, or, and, not, all, min, max.");
        String[] own = ("field lure gap to miles shut sheep at curious lures stays worth storm wool day seen crimp led"
                + " number or and not all min max").split(" ");
        e.is("so many", own.length, 25);
        for (String word : own) {
            e.fault("field " + word + " lure 1;", 1, 6);
            e.fault(TWO + "sheep " + word + " at f curious 1;", 1, 36);
            e.fault(TWO + "sheep s at " + word + " curious 1;", 1, 41);
            e.fault(TWO + "gap " + word + " to f miles 1;", 1, 34);
            e.fault(TWO + "gap f to " + word + " miles 1;", 1, 39);
            String less = word.substring(0, word.length() - 1);
            // Lures without its last letter is an own word once more.
            if (!less.equals("lure")) {
                e.good("field " + less + " lure 1;", 1);
            }
            String more = word + "x";
            if (more.length() <= 6) {
                e.good("field " + more + " lure 1;", 1);
            } else {
                e.fault("field " + more + " lure 1;", 1, 12);
            }
        }
        for (String word : "first last often total most least".split(" ")) {
            e.good("field " + word + " lure 1;", 1);
        }
    }

    private static void unlike() {
        Edge e = Edge.of(4, "unlike ones (of both sorts)");
        e.fault("field f lure 1;field f lure 1;", 3, 21);
        e.fault("field f lure 1;sheep f at f curious 1;", 3, 21);
        e.fault("field f lure 1;sheep s at f curious 1;field s lure 1;", 3, 44);
        e.fault("field f lure 1;sheep s at f curious 1;sheep s at f curious 1;", 3, 44);
        e.good("field f lure 1;field ff lure 1;field fff lure 1;sheep ffff at f curious 1;sheep fffff at ff curious 1;", 5);
        e.good("field abcdef lure 1;field abcdeg lure 1;field bbcdef lure 1;field abcde lure 1;", 4);
        e.fault("field abcdef lure 1;field abcdeg lure 1;field abcdef lure 1;", 3, 46);
        e.fault(fields(8).substring(0, 7 * FIELD_LENGTH) + "field g lure 1;", 3, 7 * FIELD_LENGTH + 6);
    }

    private static void toldAhead() {
        Edge e = Edge.of(4, "told ahead of where they are asked");
        e.good("field f lure 1;field g lure 1;gap f to g miles 1;", 3);
        e.fault("field f lure 1;gap f to g miles 1;field g lure 1;", 3, 24);
        e.fault("field f lure 1;gap g to f miles 1;field g lure 1;", 3, 19);
        e.fault("sheep s at f curious 1;field f lure 1;", 3, 11);
        e.good("field f lure 1;sheep s at f curious 1;", 2);
    }

    private static void blanks() {
        Edge e = Edge.of(4, "Blanks (10, 32) are where one likes (words and numbers side by side need one).");
        for (int sign = 0; sign < 256; sign++) {
            String text = "field" + (char) sign + "f lure 1;";
            if (sign == 10 || sign == 32) {
                e.good(text, 1);
            } else {
                e.fault(text, 1, sign >= 'a' && sign <= 'z' ? 0 : 5);
            }
        }
        e.good("\n \nfield \n f\n\nlure  1\n ;\n \n", 1);
        e.good("lures(1)+min(2,3)*(4);stays[1=1]or[all]and not[all]or(1)=1;", 2);
        e.good(" lures ( 1 ) + min ( 2 , 3 ) * ( 4 ) ; stays [ 1 = 1 ] or [ all ] and not [ all ] or ( 1 ) = 1 ; ", 2);
        e.fault("fieldf lure 1;", 1, 0);
        e.fault("field f lure1;", 1, 12);
        e.fault("field f1 lure 1;", 1, 7);
        e.fault("field f lure 1x;", 1, 14);
        e.fault("storm 1 0;", 1, 8);
        e.fault("stays 1=1or 1=1;", 1, 9);
        e.fault("stays 1=1 or1=1;", 1, 12);
        e.good("stays 1=1 or 1=1;", 1);
    }

    private static void uplandGoes() {
        Edge e = Edge.of(4, "The tape (it goes) is THE UPLAND: how many STATEMENTS (0 without); NONE, refused (1),"
                + " with a FAULT (all stays).");
        StrayWool x = new StrayWool();
        e.is("without", x.upland(), 0);
        e.is("one", Due.upland(x, "storm 1;"), 1);
        e.is("the tape goes", x.end(1), false);
        e.is("two", Due.upland(x, "storm 1;storm 1;"), 2);
        e.is("not refused", x.status(1), 0);
        e.is("with a fault", Due.upland(x, "storm 1;storm 101;"), -1);
        e.is("refused", x.status(1), 1);
        e.is("the tape goes all the same", x.end(1), false);
        e.is("blanks alone", Due.upland(x, " \n"), 0);
    }

    private static StrayWool used() {
        StrayWool x = Due.land(Lands.HILLS + "shut 2;storm 100;worth wool*3;");
        x.days(2);
        x.shear(0);
        x.lead(1, 0);
        x.swing(2, 1);
        Due.feel(x, 1, 0, 1, 2, 0, 4);
        return x;
    }

    private static int[] all(StrayWool x) {
        int[] all = new int[12];
        for (int what = 0; what < 10; what++) {
            all[what] = x.has(what);
        }
        all[10] = x.strays(0);
        all[11] = x.brings(1);
        return all;
    }

    private static void allStays() {
        Edge e = Edge.of(4, "with a FAULT (all stays)");
        // Faults in the first, in a middle, in the last statement, at the very end.
        String[] wrong = {"?", "field q lure 9;lures 9;stays all;worth 9;storm 0;shut 5;", Lands.FIELDS + Lands.GAPS
                + "sheep q at a curious 0;shut 0;shut 1;shut 2;field w lure 10;", Lands.HILLS + "storm 0"};
        for (String text : wrong) {
            StrayWool x = used();
            byte[] image = Due.image(x);
            int[] want = all(x);
            e.is("a fault", Due.upland(x, text), -1);
            e.are("all", all(x), want);
            e.is("image", Arrays.equals(image, Due.image(x)), true);
            e.is("the name of a sheep", x.letter(1, 0, 0), 5);
            e.is("what it was felt for", x.curious(0), used().curious(0));
            e.is("kept", x.kept(0, 3), 4);
            e.is("storms", x.chance(3), 3);
            x.undo();
            e.is("the last act of all", x.undo(), true);
            e.is("gap 2 is shut again", x.gap(2, 3), 0);
        }
    }

    private static void allAsAtFirst() {
        Edge e = Edge.of(4, "Without one all is as at first, nothing is KEPT, FELT or can be undone; the seed stays.");
        StrayWool x = used();
        x.seed(0);
        e.is("the same upland", Due.upland(x, Lands.HILLS + "shut 2;storm 93;worth wool*3;"), 11);
        e.are("all", all(x), 3, 3, 2, 0, 2, 0, 0, 0, 0, 0, 0, 0);
        e.is("kept", x.kept(0, 0), -1);
        e.is("undo", x.undo(), false);
        e.is("all numbers again", x.curious(0), 1023);
        // Seed 0 draws 92, which is below 93; seed 1 would draw 18.
        e.is("the seed stays", x.chance(1), 1);
        Due.upland(x, Lands.HILLS + "shut 2;storm 92;worth wool*3;");
        x.seed(0);
        e.is("92 is not below 92", x.chance(1), 0);
        e.is("nothing at all", Due.upland(x, ""), 0);
        e.are("all", all(x), 0, 0, 0, 0, 0, 0, 0, 0, 0, 0, -1, -1);
    }

    /** What uplands ahead of it told, and what was done in them, is not seen in an upland that does not tell it. */
    private static void behindOthers() {
        Edge e = Edge.of(4, "Without one all is as at first");
        String rich = Lands.HILLS + "shut 1;storm 100;lures miles+curious*2;stays wool>9;worth wool*9+crimp;";
        String bare = Lands.HILLS;
        StrayWool x = new StrayWool();
        for (String text : new String[] {rich, rich, bare, bare, rich, bare}) {
            Due.upland(x, text);
            StrayWool fresh = Due.land(text);
            e.is("image", Arrays.equals(Due.image(x), Due.image(fresh)), true);
            e.is("lures", Due.ask(x, "total lures 0+lures 2"), Due.ask(fresh, "total lures 0+lures 2"));
            e.is("curious", x.curious(0), 1023);
            e.is("days", x.days(3), fresh.days(3));
            e.is("brings", x.brings(0), fresh.brings(0));
            e.is("storms", x.chance(2), text.equals(rich) ? 2 : 0);
            x.lead(1, x.sheep(1, 0) == 1 ? 0 : 2);
            x.tell(0, 2, 77);
            Due.feel(x, 0, 0, 63, 0, 0, 63);
        }
    }
}
