/** Promises 1, 4, 5: uplands told as texts, and their faults. */
public final class UplandTextTest {
    private static final String FIELD = "field f lure 1;";

    public static void main(String[] args) {
        newObject();
        whole();
        allStaysWithFault();
        retold();
        asLongAsTheTape();
        words();
        numbers();
        names();
        deep();
        many();
        formulaWords();
        Due.close("UplandTextTest");
    }

    private static void fault(String text, int kind, int place) {
        StrayWool x = new StrayWool();
        Due.is("upland() of " + text, Due.upland(x, text), -1);
        Due.is("fault(0) of " + text, x.fault(0), kind);
        Due.is("fault(1) of " + text, x.fault(1), place);
        Due.is("refused: " + text, x.status(1), 1);
    }

    private static void good(String text, int statements) {
        StrayWool x = new StrayWool();
        Due.is("upland() of " + text, Due.upland(x, text), statements);
        Due.is("fault(0) of " + text, x.fault(0), 0);
        Due.is("fault(1) of " + text, x.fault(1), -1);
        Due.is("not refused: " + text, x.status(1), 0);
    }

    private static void newObject() {
        StrayWool x = new StrayWool();
        for (int what = 0; what < 10; what++) {
            Due.is("has " + what, x.has(what), 0);
        }
        Due.is("fault(0)", x.fault(0), 0);
        Due.is("fault(1)", x.fault(1), -1);
        Due.is("fault(2)", x.fault(2), -1);
        Due.is("fault(-1)", x.fault(-1), -1);
    }

    private static void whole() {
        good("", 0);
        good(" \n ", 0);
        good(FIELD, 1);
        good("\nfield\nf lure 0001 ;\n", 1);
        good("field first lure 0;field least lure 9;field abcdef lure 5;", 3);
        good(Lands.HILLS + "shut 0;shut 2;storm 3;storm 100;lures 1;stays all;worth 9999;", 15);
        good("storm 0;".repeat(60), 60);
        good("storm 0;".repeat(60) + " \n", 60);
        good(FIELD + "field g lure 1;" + "gap f to g miles 1;".repeat(10), 12);
    }

    private static void allStaysWithFault() {
        StrayWool x = Due.land(Lands.HILLS);
        x.days(3);
        Due.feel(x, 1, 0, 1);
        Due.is("fault", Due.upland(x, FIELD + "oops"), -1);
        int[] want = {3, 3, 2, 3, 3, 0, 26, 6, 1, 1};
        for (int what = 0; what < 10; what++) {
            Due.is("has " + what + " behind a fault", x.has(what), want[what]);
        }
        Due.is("formulas stay", x.strays(0), 0);
        Due.is("the tape goes", x.end(1), false);
        Due.is("fault(0)", x.fault(0), 1);
        Due.is("a new one", Due.upland(x, Lands.HILLS), 8);
        int[] anew = {3, 3, 2, 0, 3, 0, 0, 0, 0, 0};
        for (int what = 0; what < 10; what++) {
            Due.is("has " + what + " anew", x.has(what), anew[what]);
        }
        Due.is("fault(0) anew", x.fault(0), 0);
        Due.is("a smaller one", Due.upland(x, FIELD), 1);
        Due.is("field 1 is gone", x.lure(1), -1);
        Due.is("nothing is told", Due.upland(x, ""), 0);
        Due.is("field 0 is gone", x.lure(0), -1);
    }

    /** All is as at first, whatever was there. */
    private static void retold() {
        String rich = Lands.HILLS + "field d lure 1;gap d to a miles 9;shut 3;shut 1;storm 100;lures 7;stays wool>90;"
                + "worth wool*9+1;sheep tup at d curious 9;";
        String[] texts = {rich, Lands.HILLS, rich, Lands.HILLS, Lands.HILLS, FIELD, rich, rich};
        StrayWool x = new StrayWool();
        for (String text : texts) {
            StrayWool fresh = Due.land(text);
            Due.is("upland()", Due.upland(x, text), text.split(";").length);
            Due.is("fault", Due.upland(x, "lures 1;stays all;storm 100;oops"), -1);
            alike(x, fresh);
            x.days(7);
            fresh.days(7);
            x.lead(0, 0);
            fresh.lead(0, 0);
            Due.is("shear", x.shear(0), fresh.shear(0));
            x.seed(5);
            fresh.seed(5);
            Due.is("chance", x.chance(5), fresh.chance(5));
            alike(x, fresh);
            Due.ask(x, "total 1+1");
        }
    }

    private static void alike(StrayWool x, StrayWool fresh) {
        for (int what = 0; what < 10; what++) {
            Due.is("has " + what, x.has(what), fresh.has(what));
        }
        byte[] got = Due.image(x);
        byte[] want = Due.image(fresh);
        Due.is("image", java.util.Arrays.equals(got, want), true);
        for (int s = 0; s < 4; s++) {
            Due.is("strays", x.strays(s), fresh.strays(s));
            Due.is("brings", x.brings(s), fresh.brings(s));
            Due.is("letter", x.letter(1, s, 0), fresh.letter(1, s, 0));
            Due.is("kept", x.kept(s, 2), fresh.kept(s, 2));
        }
        Due.is("way", x.way(0, 1), fresh.way(0, 1));
        Due.is("watch", x.watch(3), fresh.watch(3));
    }

    private static void asLongAsTheTape() {
        String land = "field a lure 1;sheep s at a curious 0;";
        String text = land + "worth 10" + "+1".repeat(776) + ";";
        Due.is("bytes", text.length(), 1599);
        StrayWool x = Due.land(text);
        Due.is("all of it", x.brings(0), 786);
    }

    private static void words() {
        fault("x", 1, 0);
        fault(" ;", 1, 1);
        fault("fie", 1, 0);
        fault("fields a", 1, 0);
        fault("field", 1, 5);
        fault("field  ", 1, 7);
        fault("field f", 1, 7);
        fault("field f lur", 1, 8);
        fault("field f lures 1;", 1, 8);
        fault("field f lure", 1, 12);
        fault("field f lure 1", 1, 14);
        fault("field f lure 1 ", 1, 15);
        fault("field f lure 1 2;", 1, 15);
        fault("field f lure;", 1, 12);
        fault("field f lure x;", 1, 13);
        fault("field f lure1;", 1, 12);
        fault("field f lure 1x;", 1, 14);
        fault("field f lure 1;;", 1, 15);
        fault("\tfield f lure 1;", 1, 0);
        fault("field\rf lure 1;", 1, 5);
        fault("Field f lure 1;", 1, 0);
        fault("field fF lure 1;", 1, 7);
        fault("field \u00e9 lure 1;", 1, 6);
        fault("first 1=1;", 1, 0);
        fault("storm5;", 1, 5);
        fault("lures5;", 1, 5);
        fault("stays 5=5or 1=1;", 1, 9);
        fault("stays not5=5;", 1, 9);
    }

    private static void numbers() {
        fault("field f lure 10;", 2, 13);
        fault("field f lure 0010;", 2, 13);
        fault("field f lure 00001;", 1, 17);
        fault("field f lure 12345;", 1, 17);
        fault("field f lure -1;", 1, 13);
        fault("storm 101;", 2, 6);
        fault("storm 9999;", 2, 6);
        fault("storm 10000;", 1, 10);
        fault("shut 0;", 2, 5);
        fault(FIELD + "field g lure 1;gap f to g miles 0;", 2, 47);
        fault(FIELD + "field g lure 1;gap f to g miles 10;", 2, 47);
        fault(FIELD + "field g lure 1;gap f to g miles 1;shut 1;", 2, 54);
        fault(FIELD + "field g lure 1;gap f to g miles 1;shut 0;shut 00;", 2, 61);
        fault(FIELD + "sheep s at f curious 10;", 2, 36);
        fault("lures 12345;", 1, 10);
        good("lures 9999+0000;", 1);
        fault("field 5 lure 1;", 1, 6);
    }

    private static void names() {
        fault("field to lure 1;", 1, 6);
        fault("field number lure 1;", 1, 6);
        fault("field curious lure 1;", 1, 6);
        fault("field curiouss lure 1;", 1, 12);
        fault("field abcdefg lure 1;", 1, 12);
        fault("gap abcdefg to b miles 1;", 1, 10);
        fault(FIELD + "field f lure 1;", 3, 21);
        fault(FIELD + "sheep f at f curious 1;", 3, 21);
        fault(FIELD + "sheep s at f curious 1;field s lure 1;", 3, 44);
        fault(FIELD + "sheep s at f curious 1;sheep s at f curious 1;", 3, 44);
        fault(FIELD + "sheep s at s curious 1;", 3, 26);
        fault(FIELD + "sheep s at g curious 1;", 3, 26);
        fault(FIELD + "gap g to f miles 1;", 3, 19);
        fault(FIELD + "gap f to g miles 1;", 3, 24);
        fault(FIELD + "gap f to f miles 1;", 3, 24);
        fault(FIELD + "sheep s at f curious 1;gap f to s miles 1;", 3, 47);
        fault("gap f to g miles 1;" + FIELD, 3, 4);
        for (String own : Grammar.OWN) {
            fault("field " + own + " lure 1;", 1, 6);
        }
    }

    private static void deep() {
        good("lures ((((((1))))));", 1);
        fault("lures (((((((1)))))));", 4, 12);
        good("stays not not not not not not all;", 1);
        fault("stays not not not not not not not all;", 4, 30);
        fault("stays [[[[[[[all]]]]]]];", 4, 12);
        fault("stays not [(1)=((((((1)))))) ];", 4, 19);
        good("stays not [(1)=((((1)))) ] and not (1)=1;", 1);
        good("stays not all and not ((((1))))=1 or ((((((1))))))=1;", 1);
        fault("worth min(min(min(min(min(min(min(1,1),1),1),1),1),1),1);", 4, 33);
        good("worth min(min(min(min(min(min(1,1),1),1),1),1),max(1,1));", 1);
        fault("lures ((((((1(", 1, 13);
    }

    private static void many() {
        String fields = "field a lure 1;field b lure 1;field c lure 1;field d lure 1;"
                + "field e lure 1;field f lure 1;field g lure 1;field h lure 1;";
        good(fields, 8);
        fault(fields + "field", 5, 120);
        fault(fields + "fields", 1, 120);
        String gaps = fields + "gap a to b miles 1;".repeat(10);
        good(gaps, 18);
        fault(gaps + " gap x", 5, 311);
        String sheep = "field z lure 1;";
        for (char c = 'a'; c < 'g'; c++) {
            sheep += "sheep " + c + " at z curious 1;";
        }
        good(sheep, 7);
        fault(sheep + "sheep g at z curious 1;", 5, 153);
        fault("lures 1;lures 1;", 5, 8);
        fault("stays all;stays all;", 5, 10);
        fault("worth 1;worth 1;", 5, 8);
        fault("storm 0;".repeat(60) + "storm 0;", 5, 480);
        fault("storm 0;".repeat(60) + "  ?", 5, 482);
        fault("storm 0;".repeat(59) + ";", 1, 472);
    }

    private static void formulaWords() {
        good("lures curious+wool-day*lure/seen+miles;", 1);
        good("stays curious+wool-day*lure/seen<1 or [1>2 and 3=3];", 1);
        good("worth curious+wool-day*crimp/led;", 1);
        fault("lures crimp;", 1, 6);
        fault("lures led;", 1, 6);
        fault("lures number;", 1, 6);
        fault("lures at;", 1, 6);
        fault("stays miles=1;", 1, 6);
        fault("stays crimp=1;", 1, 6);
        fault("stays led=1;", 1, 6);
        fault("worth lure;", 1, 6);
        fault("worth seen;", 1, 6);
        fault("worth miles;", 1, 6);
        fault("worth f;", 1, 6);
        fault("worth -1;", 1, 6);
        fault("worth 1+;", 1, 8);
        fault("worth (1;", 1, 8);
        fault("worth min 1;", 1, 10);
        fault("worth min(1);", 1, 11);
        fault("worth max(1,2;", 1, 13);
        fault("worth all;", 1, 6);
        fault("worth 1=1;", 1, 7);
        fault("stays 1;", 1, 7);
        fault("stays all=1;", 1, 9);
        fault("stays [all;", 1, 10);
        fault("stays (all);", 1, 7);
        fault("stays (1=1);", 1, 8);
        fault("stays 1<2<3;", 1, 9);
        fault("stays all or;", 1, 12);
        fault("stays 1==1;", 1, 8);
    }
}
