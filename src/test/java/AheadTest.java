/** Promises 15 to 23: days ahead, gaps, ways, fleeces. */
public final class AheadTest {
    public static void main(String[] args) {
        later();
        home();
        gaps();
        rumour();
        way();
        waits();
        coat();
        watch();
        ways();
        lateInTime();
        nothingChanges();
        Due.close("AheadTest");
    }

    private static void later() {
        StrayWool x = Due.land(Lands.HILLS);
        for (int n = 0; n <= 10; n++) {
            Due.is("ewe's field behind " + n, x.later(0, n, 0), Lands.EWE_FIELD[n]);
            Due.is("ewe's miles behind " + n, x.later(0, n, 1), Lands.EWE_MILES[n]);
            Due.is("ewe's crimp behind " + n, x.later(0, n, 2), Lands.EWE_CRIMP[n]);
            Due.is("ram's field behind " + n, x.later(1, n, 0), Lands.RAM_FIELD[n]);
            Due.is("ram's miles behind " + n, x.later(1, n, 1), Lands.RAM_MILES[n]);
        }
        x.days(4);
        Due.is("from now on", x.later(0, 6, 1), Lands.EWE_MILES[10]);
        Due.is("60", x.later(0, 60, 0) >= 0, true);
        Due.is("61", x.later(0, 61, 0), -1);
        Due.is("-1", x.later(0, -1, 0), -1);
        Due.is("what 3", x.later(0, 1, 3), -1);
        Due.is("what -1", x.later(0, 1, -1), -1);
        Due.is("sheep 2", x.later(2, 1, 0), -1);
        Due.is("sheep -1", x.later(-1, 1, 0), -1);
    }

    private static void home() {
        StrayWool x = Due.land(Lands.HILLS);
        Due.is("ewe", x.home(0), 2);
        Due.is("ram", x.home(1), 10);
        Due.is("sheep 2", x.home(2), -1);
        Due.is("sheep -1", x.home(-1), -1);
        Due.is("one that never goes is home behind one day",
                Due.land("field a lure 1;sheep s at a curious 0;").home(0), 1);
        Due.is("one that does not come back",
                Due.land("field a lure 0;field b lure 1;gap a to b miles 1;sheep s at a curious 0;").home(0), -1);
        String back = "field a lure 1;field b lure 1;gap a to b miles 1;sheep s at a curious 0;lures 1;stays day>0 and day<";
        Due.is("behind 60 days", Due.land(back + "59;").home(0), 60);
        Due.is("behind 61 days", Due.land(back + "60;").home(0), -1);
    }

    private static void gaps() {
        StrayWool x = Due.land(Lands.HILLS);
        Due.is("as it is", x.gaps(0, 1, 1), 0);
        Due.is("one shut", x.gaps(0, 2, 1), 1);
        Due.is("two shut", x.gaps(0, 0, 1), 5);
        Due.is("now", x.gaps(0, 0, 0), 0);
        Due.is("not now", x.gaps(0, 1, 0), -1);
        x.swing(0, 0);
        Due.is("one opened", x.gaps(0, 1, 1), 1);
        x.swing(2, 0);
        Due.is("ewe is shut in", x.gaps(0, 0, 20), 0);
        Due.is("ewe gets out", x.gaps(0, 2, 1), 4);
        Due.is("20", x.gaps(0, 1, 20) >= 0, true);
        Due.is("21", x.gaps(0, 0, 21), -1);
        Due.is("-1", x.gaps(0, 0, -1), -1);
        Due.is("sheep 2", x.gaps(2, 0, 1), -1);
        Due.is("field 3", x.gaps(0, 3, 1), -1);
        Due.is("field -1", x.gaps(0, -1, 1), -1);
        StrayWool likes = Due.land("field a lure 1;field b lure 9;field c lure 9;gap b to c miles 1;gap a to b miles 1;"
                + "gap a to b miles 2;shut 1;shut 2;sheep s at a curious 0;");
        Due.is("the least bits of like ones", likes.gaps(0, 1, 1), 2);
        Due.is("two days", likes.gaps(0, 2, 2), 2);
        StrayWool none = Due.land("field a lure 1;field b lure 9;gap a to b miles 1;sheep s at a curious 0;stays all;");
        Due.is("none", none.gaps(0, 1, 5), -1);
    }

    private static void rumour() {
        StrayWool x = Due.land(Lands.HILLS);
        // Shutting gap 2 lets none stray farther in one day: ewe 4 and ram 6 are the most already.
        Due.is("none is best", x.rumour(1, 0), -1);
        Due.is("its miles", x.rumour(1, 1), 10);
        x.swing(1, 0);
        Due.is("opening is best", x.rumour(1, 0), 1);
        Due.is("its miles", x.rumour(1, 1), 10);
        Due.is("nothing has changed", x.gap(1, 3), 0);
        StrayWool likes = Due.land("field a lure 1;field b lure 9;gap a to b miles 3;gap a to b miles 3;shut 0;shut 1;"
                + "sheep s at a curious 0;");
        Due.is("the first of like ones", likes.rumour(1, 0), 0);
        Due.is("its miles", likes.rumour(1, 1), 3);
        Due.is("0", x.rumour(0, 0), -1);
        Due.is("40", x.rumour(40, 1) > 0, true);
        Due.is("41", x.rumour(41, 1), -1);
        Due.is("what 2", x.rumour(1, 2), -1);
        Due.is("what -1", x.rumour(1, -1), -1);
    }

    private static void way() {
        StrayWool x = Due.land(Lands.FIELDS + "field d lure 1;" + Lands.GAPS);
        Due.is("a b", x.way(0, 1), 4);
        Due.is("b c", x.way(1, 2), 6);
        Due.is("c a", x.way(2, 0), 2);
        Due.is("itself", x.way(3, 3), 0);
        Due.is("no way", x.way(0, 3), -1);
        x.swing(0, 0);
        Due.is("a b around", x.way(0, 1), 8);
        x.swing(2, 0);
        Due.is("a b shut", x.way(0, 1), -1);
        Due.is("field 4", x.way(4, 0), -1);
        Due.is("field -1", x.way(0, -1), -1);
        StrayWool row = Due.land("field a lure 1;field b lure 1;field c lure 1;field d lure 1;field e lure 1;"
                + "field f lure 1;field g lure 1;field h lure 1;gap h to g miles 9;gap g to f miles 9;gap f to e miles 9;"
                + "gap e to d miles 9;gap d to c miles 9;gap c to b miles 9;gap b to a miles 9;gap a to c miles 1;");
        Due.is("a row", row.way(0, 7), 46);
        Due.is("a row back", row.way(7, 0), 46);
        Due.is("a b by c", row.way(0, 1), 9);
    }

    private static void waits() {
        StrayWool x = Due.land(Lands.HILLS + "worth wool*4-day*day;");
        int[][] due = {{0, 0, 0}, {1, 1, 15}, {7, 7, 79}, {8, 8, 80}, {9, 8, 80}, {10, 10, 84}};
        for (int[] row : due) {
            Due.is("waits " + row[0], x.waits(0, row[0], 0), row[1]);
            Due.is("brings " + row[0], x.waits(0, row[0], 1), row[2]);
        }
        StrayWool likes = Due.land(Lands.HILLS + "worth min(wool,4);");
        Due.is("the fewest of like ones", likes.waits(0, 60, 0), 1);
        Due.is("brings", likes.waits(0, 60, 1), 4);
        StrayWool cut = Due.land(Lands.HILLS + "worth 0-5;");
        Due.is("cut to 0", cut.waits(0, 60, 0), 0);
        Due.is("brings 0", cut.waits(0, 60, 1), 0);
        StrayWool above = Due.land(Lands.HILLS + "worth wool*4000;");
        Due.is("cut to 9999", above.waits(0, 60, 0), 1);
        Due.is("brings 9999", above.waits(0, 60, 1), 9999);
        StrayWool bare = Due.land(Lands.HILLS + "worth 5;");
        Due.is("wool of 0 miles", bare.waits(0, 3, 0), 0);
        Due.is("brings", bare.waits(0, 3, 1), 5);
        Due.is("brings now", bare.brings(0), 5);
        StrayWool led = Due.land(Lands.HILLS + "worth led*100+wool*day;");
        led.lead(0, 0);
        Due.is("led until then", led.waits(0, 2, 1), 100 + 2 * led.later(0, 2, 1));
        Due.is("61", x.waits(0, 61, 0), -1);
        Due.is("-1", x.waits(0, -1, 0), -1);
        Due.is("what 2", x.waits(0, 1, 2), -1);
        Due.is("what -1", x.waits(0, 1, -1), -1);
        Due.is("sheep 2", x.waits(2, 1, 0), -1);
    }

    private static void coat() {
        StrayWool x = Due.land(Lands.HILLS + "sheep tup at c curious 1;");
        Due.is("no wool", x.coat(1), -1);
        x.days(3);
        // Ewe 12, ram 14, tup 14 as ram.
        int[][] due = {{1, 1}, {12, 1}, {13, 2}, {14, 2}, {15, 3}, {26, 3}, {27, 6}, {28, 6}, {29, 7}, {40, 7}, {41, -1},
            {0, -1}, {-1, -1}, {9999, -1}, {10000, -1}};
        for (int[] row : due) {
            Due.is("coat " + row[0], x.coat(row[0]), row[1]);
        }
    }

    private static void watch() {
        StrayWool x = Due.land(Lands.HILLS);
        Due.is("watch 0", x.watch(0), 1);
        Due.is("watch 3", x.watch(3), 1);
        x.swing(2, 0);
        Due.is("from b", x.watch(0), 2);
        x.swing(0, 0);
        Due.is("from two", x.watch(0), 3);
        x.swing(1, 0);
        Due.is("from their own", x.watch(0), 5);
        Due.is("60", x.watch(60), 5);
        Due.is("61", x.watch(61), -1);
        Due.is("-1", x.watch(-1), -1);
        Due.is("no sheep", Due.land(Lands.FIELDS).watch(5), 0);
        StrayWool star = Due.land("field a lure 0;field b lure 0;field c lure 9;field d lure 0;gap a to c miles 1;"
                + "gap c to b miles 1;gap b to d miles 1;sheep s at a curious 0;sheep t at b curious 0;");
        Due.is("one, though two have less bits", star.watch(0), 4);
        Due.is("both in c", star.watch(1), 1);
        star.swing(0, 0);
        Due.is("then from two", star.watch(0), 3);
        Due.is("where they will be", star.watch(1), 3);
        star.swing(0, 1);
        star.days(1);
        star.swing(0, 0);
        Due.is("where they are now", star.watch(0), 2);
    }

    private static void ways() {
        StrayWool x = Due.land(Lands.HILLS);
        Due.is("none", x.ways(0, 0, 0), 1);
        Due.is("one by gap 0", x.ways(0, 1, 1), 1);
        Due.is("one by gap 2", x.ways(0, 1, 3), 1);
        Due.is("gap 1 is not at a", x.ways(0, 1, 2), 0);
        x.swing(2, 0);
        Due.is("shut", x.ways(0, 1, 3), 0);
        Due.is("n 13", x.ways(0, 13, 0), StrayWool.NOTHING);
        Due.is("n -1", x.ways(0, -1, 0), StrayWool.NOTHING);
        Due.is("field 3", x.ways(3, 1, 0), StrayWool.NOTHING);
        Due.is("field -1", x.ways(-1, 1, 0), StrayWool.NOTHING);
        Due.is("crimp 64", x.ways(0, 1, 64), StrayWool.NOTHING);
        Due.is("crimp -1", x.ways(0, 1, -1), StrayWool.NOTHING);
        StrayWool many = Due.land("field a lure 1;field b lure 1;" + "gap a to b miles 1;".repeat(10));
        long all = 0;
        for (int crimp = 0; crimp < 64; crimp++) {
            all += many.ways(1, 12, crimp);
        }
        Due.is("all of ten", all, 1000000000000L);
        Due.is("crimp 1 to 10 by one", many.ways(0, 1, 10), 1);
    }

    private static StrayWool at(int day) {
        StrayWool x = Due.land(Lands.HILLS);
        byte[] image = Due.image(x);
        image[0] = (byte) (day >> 8);
        image[1] = (byte) day;
        Due.on(x, Due.sealed(image));
        Due.is("day", x.has(3), day);
        return x;
    }

    /** No day comes behind 999. */
    private static void lateInTime() {
        StrayWool x = at(989);
        Due.is("later 10", x.later(0, 10, 0), 2);
        Due.is("later 11", x.later(0, 11, 0), -1);
        Due.is("home 10", x.home(1), 10);
        Due.is("gaps 10", x.gaps(0, 2, 10), 0);
        Due.is("gaps 11", x.gaps(0, 2, 11), -1);
        Due.is("rumour 10", x.rumour(10, 1) >= 90, true);
        Due.is("rumour 11", x.rumour(11, 1), -1);
        Due.is("waits 10", x.waits(0, 10, 1), 46);
        Due.is("waits 11", x.waits(0, 11, 1), -1);
        Due.is("watch 10", x.watch(10) > 0, true);
        Due.is("watch 11", x.watch(11), -1);
        Due.is("days 11", x.days(11), -1);
        Due.is("chance 11", x.chance(11), -1);
        Due.is("home 10 of 9", at(990).home(1), -1);
        Due.is("later 0 at 999", at(999).later(0, 0, 0), 0);
        Due.is("later 1 at 999", at(999).later(0, 1, 0), -1);
        Due.is("home at 999", at(999).home(0), -1);
        Due.is("strays at 999, as if a day came", at(999).strays(0), 0);
        Due.is("gaps 0 at 999", at(999).gaps(0, 0, 0), 0);
        Due.is("rumour 1 at 999", at(999).rumour(1, 0), -1);
        Due.is("rumour's miles at 999", at(999).rumour(1, 1), -1);
    }

    private static void nothingChanges() {
        StrayWool x = Due.land(Lands.HILLS);
        x.days(2);
        byte[] before = Due.image(x);
        x.later(0, 60, 0);
        x.home(0);
        x.gaps(0, 2, 20);
        x.rumour(40, 0);
        x.waits(1, 60, 0);
        x.watch(60);
        x.ways(0, 12, 5);
        x.curious(0);
        x.tells(1, 0);
        x.strays(0);
        byte[] behind = Due.image(x);
        for (int k = 0; k < before.length; k++) {
            Due.is("octet " + k, behind[k], before[k]);
        }
        Due.is("kept", x.has(7), 4);
        Due.is("acts", x.has(9), 1);
    }
}
