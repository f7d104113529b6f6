/** Promises 6 to 14, 31: what there is, days as they pass, formulas as they are reckoned. */
public final class LandTest {
    public static void main(String[] args) {
        told();
        wrongNumbers();
        days();
        firstOfLikeOnes();
        ceilings();
        keptLastForty();
        stays();
        reckoning();
        Due.close("LandTest");
    }

    private static void told() {
        StrayWool x = Due.land("field abcdef lure 0;field z lure 9;gap abcdef to z miles 7;gap z to abcdef miles 1;"
                + "shut 1;sheep ewe at z curious 3;");
        int[] has = {2, 2, 1, 0, 1, 0, 0, 0, 0, 0};
        for (int what = 0; what < 10; what++) {
            Due.is("has " + what, x.has(what), has[what]);
        }
        for (int k = 0; k < 6; k++) {
            Due.is("letter of abcdef", x.letter(0, 0, k), k + 1);
            Due.is("letter of z", x.letter(0, 1, k), k == 0 ? 26 : 0);
            Due.is("letter of ewe", x.letter(1, 0, k), new int[] {5, 23, 5, 0, 0, 0}[k]);
        }
        Due.is("lure 0", x.lure(0), 0);
        Due.is("lure 1", x.lure(1), 9);
        int[][] gaps = {{0, 1, 7, 1}, {1, 0, 1, 0}};
        for (int k = 0; k < 2; k++) {
            for (int what = 0; what < 4; what++) {
                Due.is("gap " + k + " " + what, x.gap(k, what), gaps[k][what]);
            }
        }
        int[] sheep = {1, 3, 0, 0, 0, 1};
        for (int what = 0; what < 6; what++) {
            Due.is("sheep " + what, x.sheep(0, what), sheep[what]);
        }
        Due.is("seen home", x.seen(0, 1), 1);
        Due.is("seen other", x.seen(0, 0), 0);
    }

    private static void wrongNumbers() {
        StrayWool x = Due.land(Lands.HILLS);
        x.days(1);
        Due.is("has(-1)", x.has(-1), -1);
        Due.is("has(10)", x.has(10), -1);
        Due.is("letter k -1", x.letter(0, 0, -1), -1);
        Due.is("letter k 6", x.letter(0, 0, 6), -1);
        Due.is("letter kind 2", x.letter(2, 0, 0), -1);
        Due.is("letter kind -1", x.letter(-1, 0, 0), -1);
        Due.is("letter field 3", x.letter(0, 3, 0), -1);
        Due.is("letter sheep 2", x.letter(1, 2, 0), -1);
        Due.is("letter sheep -1", x.letter(1, -1, 0), -1);
        Due.is("lure -1", x.lure(-1), -1);
        Due.is("lure 3", x.lure(3), -1);
        Due.is("gap 3", x.gap(3, 0), -1);
        Due.is("gap -1", x.gap(-1, 0), -1);
        Due.is("gap what 4", x.gap(0, 4), -1);
        Due.is("gap what -1", x.gap(0, -1), -1);
        Due.is("sheep 2", x.sheep(2, 0), -1);
        Due.is("sheep -1", x.sheep(-1, 0), -1);
        Due.is("sheep what 6", x.sheep(0, 6), -1);
        Due.is("sheep what -1", x.sheep(0, -1), -1);
        Due.is("seen sheep 2", x.seen(2, 0), -1);
        Due.is("seen field 3", x.seen(0, 3), -1);
        Due.is("seen field -1", x.seen(0, -1), -1);
        Due.is("strays 2", x.strays(2), -1);
        Due.is("strays -1", x.strays(-1), -1);
        Due.is("brings 2", x.brings(2), -1);
        Due.is("brings -1", x.brings(-1), -1);
        Due.is("kept(2)", x.kept(2, 0), -1);
        Due.is("kept(-1)", x.kept(-1, 0), -1);
        Due.is("kept what 4", x.kept(0, 4), -1);
        Due.is("kept what -1", x.kept(0, -1), -1);
    }

    private static void days() {
        StrayWool x = Due.land(Lands.HILLS);
        Due.is("strays ewe", x.strays(0), 0);
        Due.is("strays ram", x.strays(1), 1);
        Due.is("days(3)", x.days(3), 6);
        int[][] kept = {{0, 0, 0, 4}, {0, 1, 1, 6}, {1, 0, 0, 8}, {1, 1, 0, 10}, {2, 0, 0, 12}, {2, 1, 0, 14}};
        for (int k = 0; k < 6; k++) {
            for (int what = 0; what < 4; what++) {
                Due.is("kept " + k + " " + what, x.kept(k, what), kept[k][what]);
            }
        }
        int[] has = {3, 3, 2, 3, 3, 0, 26, 6, 0, 1};
        for (int what = 0; what < 10; what++) {
            Due.is("has " + what, x.has(what), has[what]);
        }
        Due.is("ewe's field", x.sheep(0, 0), 1);
        Due.is("ewe's crimp", x.sheep(0, 3), 13);
        Due.is("ram's crimp", x.sheep(1, 3), 22);
        Due.is("not led", x.sheep(1, 4), 0);
        Due.is("ewe's home", x.sheep(0, 5), 0);
        Due.is("ewe seen a", x.seen(0, 0), 2);
        Due.is("ram seen b", x.seen(1, 1), 2);
        Due.is("brings ewe", x.brings(0), 12);
        Due.is("days(0)", x.days(0), -1);
        Due.is("days(-1)", x.days(-1), -1);
        Due.is("days(101)", x.days(101), -1);
        Due.is("refused", x.status(3), 3);
        Due.is("day", x.has(3), 3);
    }

    private static void firstOfLikeOnes() {
        StrayWool x = Due.land("field a lure 0;field b lure 3;field c lure 3;gap a to b miles 1;gap c to a miles 1;"
                + "gap a to b miles 1;shut 0;sheep s at a curious 0;sheep t at b curious 0;");
        Due.is("the first open one of like ones", x.strays(0), 1);
        Due.is("none above 0", x.strays(1), -1);
        x.swing(0, 1);
        Due.is("the first one", x.strays(0), 0);
        Due.is("days(1)", x.days(1), 1);
        Due.is("not strayed", x.sheep(1, 0), 1);
        Due.is("nothing strayed once more", x.days(1), 0);
    }

    private static void ceilings() {
        StrayWool x = Due.land("field a lure 1;field b lure 1;gap a to b miles 9;sheep s at a curious 0;lures 1;");
        for (int n = 0; n < 9; n++) {
            Due.is("days(100)", x.days(100), 100);
        }
        Due.is("days(100) beyond 999", x.days(100), -1);
        Due.is("days(99)", x.days(99), 99);
        Due.is("days(1) beyond 999", x.days(1), -1);
        Due.is("chance(1) beyond 999", x.chance(1), -1);
        Due.is("day", x.has(3), 999);
        Due.is("miles", x.sheep(0, 2), 999);
        Due.is("times a", x.seen(0, 0), 99);
        Due.is("times b", x.seen(0, 1), 99);
        Due.is("refused", x.status(3), 3);
    }

    private static void keptLastForty() {
        StrayWool x = Due.land("field a lure 1;field b lure 1;gap a to b miles 1;sheep s at a curious 0;lures 1;");
        x.days(40);
        Due.is("forty", x.has(7), 40);
        Due.is("oldest", x.kept(0, 0), 0);
        x.days(13);
        Due.is("still forty", x.has(7), 40);
        Due.is("oldest of 53", x.kept(0, 0), 13);
        Due.is("its miles", x.kept(0, 3), 14);
        Due.is("newest of 53", x.kept(39, 0), 52);
        Due.is("41st", x.kept(40, 0), -1);
        x.lead(0, 0);
        Due.is("what is led is not kept", x.kept(39, 0), 52);
        x.undo();
        x.undo();
        Due.is("undone", x.kept(0, 0), 0);
        Due.is("undone newest", x.kept(39, 0), 39);
    }

    private static void stays() {
        String land = "field a lure 2;field b lure 7;gap a to b miles 3;sheep s at a curious 4;";
        Due.is("lure of its own field", Due.land(land + "stays lure=2;").strays(0), -1);
        Due.is("not of the other", Due.land(land + "stays lure=7;").strays(0), 0);
        Due.is("seen in its own field", Due.land(land + "stays seen=1;").strays(0), -1);
        Due.is("all", Due.land(land + "stays all;").strays(0), -1);
        Due.is("not all", Due.land(land + "stays not all;").strays(0), 0);
        Due.is("and ahead of or", Due.land(land + "stays all or all and not all;").strays(0), -1);
        Due.is("brackets", Due.land(land + "stays [all or all] and not all;").strays(0), 0);
        Due.is("not takes one fact", Due.land(land + "stays not all or all;").strays(0), -1);
        Due.is("day", Due.land(land + "stays day=0;").later(0, 2, 0), 1);
        Due.is("lures by the gap", Due.land(land + "lures miles-3;").strays(0), -1);
        Due.is("lure beyond", Due.land(land + "lures lure-6;").strays(0), 0);
        Due.is("seen beyond", Due.land(land + "lures 1-seen;").strays(0), 0);
    }

    private static void worth(String formula, int want) {
        StrayWool x = Due.land("field a lure 2;field b lure 7;gap a to b miles 3;sheep s at a curious 4;worth "
                + formula + ";");
        x.days(1);
        Due.is("worth " + formula, x.brings(0), want);
    }

    /** Wool 3, crimp 1, day 1, curious 4. */
    private static void reckoning() {
        worth("wool", 3);
        worth("crimp*10+day", 11);
        worth("curious+led", 4);
        worth("2+3*4", 14);
        worth("(2+3)*4", 20);
        worth("20-5-3", 12);
        worth("100/7/2", 7);
        worth("100/(7/2)", 33);
        worth("7/2*2", 6);
        worth("10+(0-7)/2", 6);
        worth("10+7/(0-2)", 6);
        worth("10+(0-7)/(0-2)", 13);
        worth("5/0+1", 1);
        worth("0-1", 0);
        worth("9999+1", 9999);
        worth("9999*9999/1000", 1000);
        worth("9999*9999+9999*9999-9999*100-50", 50);
        worth("(0-9999)*9999/1000+1001", 1);
        worth("0-9999*9999-9999*9999+9999*100+101", 1);
        worth("min(3,min(2,5))+max(7,1)*10", 72);
        worth("min(0-1,5)+max(0-3,0-2)+4", 1);
    }
}
