/** Promises 35, 5: questions and their faults. */
public final class QuestionTest {
    public static void main(String[] args) {
        answers();
        withoutSheep();
        faults();
        asLongAsTheTape();
        Due.close("QuestionTest");
    }

    private static StrayWool hills() {
        StrayWool x = Due.land(Lands.HILLS + "shut 1;");
        x.lead(0, 0);
        return x;
    }

    /** Ewe: number 0, at 1, curious 6, wool 4, crimp 1, led; ram: number 1, at 2, curious 2. */
    private static void answers() {
        Object[][] due = {
            {"first all", 0}, {"last all", 1}, {"often all", 2}, {"first not all", -1}, {"last not all", -1},
            {"often not all", 0}, {"first number=1", 1}, {"last wool>0", 0}, {"often curious>1 and curious<3", 1},
            {"often curious<3", 1}, {"often curious>3", 1}, {"often curious=6", 1}, {"often not curious<3", 1},
            {"often not curious>3", 1}, {"often not curious=6", 1}, {"often curious<3 or curious>3", 2},
            {"first [led=1 or led=0] and at=2", 1}, {"total curious", 8}, {"most curious", 6}, {"least curious", 2},
            {"total at*10+number", 31}, {"most crimp", 1}, {"least 0-wool", -4}, {"most 0-3", -3}, {"total led", 1},
            {"total day+1", 2}, {"total seen 0", 1}, {"total seen 1", 1}, {"total seen 2", 1}, {"total seen 3", 0},
            {"total seen (0-1)", 0}, {"total seen at", 2}, {"total seen seen 1", 1}, {"total lures 0", 4},
            {"total lures 1", 0}, {"total lures 2", 5}, {"total lures 3", 0}, {"total lures (0-1)", 0},
            {"total lures 9999", 0}, {"most lures min(0,5)*2", 8}, {"total lures lures 9", 4},
            {"total 9999*9999", 2000000}, {"total 0-9999*9999", -2000000}, {"total 7/2*2", 12},
            {"\ntotal\n(1)\n", 2}, {"total max(number,at)", 3},
        };
        for (Object[] row : due) {
            StrayWool x = hills();
            Due.is((String) row[0], Due.ask(x, (String) row[0]), (Integer) row[1]);
            Due.is("fault of " + row[0], x.fault(0), 0);
            Due.is("place of " + row[0], x.fault(1), -1);
        }
        StrayWool stays = Due.land(Lands.HILLS + "lures curious*100+miles*10+seen-lure;stays all;");
        Due.is("lures are reckoned though one stays", Due.ask(stays, "total lures 2"), 600 + 20 + 0 - 3 + 200 + 20 - 5);
        StrayWool below = Due.land(Lands.HILLS + "lures 0-curious;");
        Due.is("lures below 0", Due.ask(below, "least lures 2"), -6);
        StrayWool eight = Due.land("field a lure 1;field b lure 1;field c lure 1;field d lure 1;field e lure 1;"
                + "field f lure 1;field g lure 1;field h lure 1;sheep s at h curious 1;sheep t at a curious 1;");
        Due.is("seen in the last field", Due.ask(eight, "total seen 7"), 1);
        Due.is("seen behind the last field", Due.ask(eight, "total seen 8"), 0);
        StrayWool x = hills();
        x.feed(0x616c6c20, 0, 0, 0, 0);
        Due.ask(x, "often all");
        Due.is("the tape goes", x.end(1), false);
    }

    private static void withoutSheep() {
        StrayWool x = new StrayWool();
        String[] questions = {"first all", "last all", "often all", "total 5", "most 5", "least 5"};
        int[] due = {-1, -1, 0, 0, 0, 0};
        for (int i = 0; i < due.length; i++) {
            Due.is(questions[i], Due.ask(x, questions[i]), due[i]);
        }
    }

    private static void asLongAsTheTape() {
        StrayWool x = hills();
        String question = "total 10" + "+1".repeat(796);
        Due.is("bytes", question.length(), 1600);
        for (int n = 0; n < 5; n++) {
            Due.is("a long question", Due.ask(x, question), 2 * 806);
        }
        String nested = "total " + "min(9,max(1,".repeat(3) + "1" + "*1".repeat(700) + "))".repeat(3);
        Due.is("a deep one", Due.ask(x, nested), 2);
        String marks = "often " + "not all and ".repeat(132) + "all";
        Due.is("many facts", Due.ask(x, marks), 0);
    }

    private static void fault(String text, int kind, int place) {
        StrayWool x = hills();
        byte[] before = Due.image(x);
        Due.is("ask() of " + text, Due.ask(x, text), StrayWool.NOTHING);
        Due.is("fault(0) of " + text, x.fault(0), kind);
        Due.is("fault(1) of " + text, x.fault(1), place);
        Due.is("status(1) of " + text, x.status(1), 0);
        Due.is("image of " + text, Due.image(x).length, before.length);
    }

    private static void faults() {
        fault("", 1, 0);
        fault("  ", 1, 2);
        fault("firs all", 1, 0);
        fault("field", 1, 0);
        fault("all", 1, 0);
        fault("first", 1, 5);
        fault("total", 1, 5);
        fault("total all", 1, 6);
        fault("first 1", 1, 7);
        fault("first all;", 1, 9);
        fault("first all all", 1, 10);
        fault("total 1 1", 1, 8);
        fault("total 1)", 1, 7);
        fault("total lure", 1, 6);
        fault("total miles", 1, 6);
        fault("total ewe", 1, 6);
        fault("total seen", 1, 10);
        fault("total lures", 1, 11);
        fault("total seen+1", 1, 10);
        fault("total seen1", 1, 10);
        fault("total5", 1, 5);
        fault("total 12345", 1, 10);
        fault("total ((((((1))))))+(((((((1)))))))", 4, 26);
        fault("total seen lures seen lures seen lures seen 1", 4, 39);
        fault("total seen (lures (seen (lures 1)))", 4, 25);
        fault("first not [seen (lures (1))]=1", 1, 27);
        fault("first not [seen (lures (1+seen 1))=1]", 4, 26);
        fault("most min(seen min(seen min(seen min(1,1),1),1),1)", 4, 35);
        StrayWool x = hills();
        Due.is("six", Due.ask(x, "total seen lures seen lures seen lures 1") != StrayWool.NOTHING, true);
        Due.is("closed again", Due.ask(x, "total seen (((((1)))))+seen (((((1)))))*lures 1 + lures 0"), 1 + 4);
        Due.ask(x, "oops");
        Due.is("a fault of a question", x.fault(0), 1);
        Due.upland(x, "");
        Due.is("the latest", x.fault(0), 0);
    }
}
