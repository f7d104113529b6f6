import java.util.Arrays;
import java.util.function.ToIntBiFunction;

/** Edges of promises 15 to 19, 23 and of part III of the terms: days ahead, gaps, ways. */
final class AheadEdges {
    /** A sheep that strays to and fro, a mile a day. */
    static final String SHUTTLE = "field a lure 1;field b lure 1;gap a to b miles 1;sheep s at a curious 0;lures 1;";
    private static final int[] BESIDE = {Integer.MIN_VALUE, -1, Integer.MAX_VALUE};

    private AheadEdges() {
    }

    static void run() {
        ahead();
        later();
        home();
        homeLate();
        gaps();
        gapsChosen();
        gapsTried();
        rumour();
        rumourChosen();
        way();
        wayChosen();
        ways();
        waysCounted();
    }

    /** Which numbers of DAYS AHEAD are answered at all, on day 0 and near day 999. */
    static void limits(Edge e, String call, ToIntBiFunction<StrayWool, Integer> ask, int least, int most) {
        for (int day : new int[] {0, 1, 998 - most, 999 - most, 1000 - most, 1001 - most, 998, 999}) {
            StrayWool x = Due.land(SHUTTLE);
            Put.day(x, day);
            int can = Math.min(most, 999 - day);
            for (int n : new int[] {Integer.MIN_VALUE, -1, 0, 1, can - 1, can, can + 1, most, most + 1, Integer.MAX_VALUE}) {
                boolean due = n >= least && n <= can;
                e.is(call + " " + n + " on day " + day + " is answered", ask.applyAsInt(x, n) != -1, due);
            }
        }
    }

    private static void ahead() {
        Edge e = Edge.of(15, "AHEAD are DAYS as they come from now on without DRAWS (60 at most, not beyond DAY 999).");
        StrayWool x = Due.land(SHUTTLE + "storm 100;");
        StrayWool fresh = Due.land(SHUTTLE + "storm 100;");
        for (int n = 0; n <= 60; n++) {
            e.is("though storms may come, field behind " + n, x.later(0, n, 0), n % 2);
        }
        x.home(0);
        x.gaps(0, 1, 20);
        x.rumour(40, 0);
        x.waits(0, 60, 0);
        x.watch(60);
        x.tells(0, 0);
        e.is("nothing has been drawn", x.chance(1), 1);
        fresh.chance(1);
        e.is("nothing has changed", Arrays.equals(Due.image(x), Due.image(fresh)), true);
        x.swing(0, 1);
        x.days(1);
        e.is("from now on", x.later(0, 1, 0), 0);
        e.is("from now on, miles", x.later(0, 2, 1), 3);
    }

    private static void later() {
        Edge e = Edge.of(15, "Of a SHEEP behind n DAYS AHEAD (0 .. 60): 0 its FIELD, 1 miles, 2 CRIMP. NONE when"
                + " there is none such, n can't be, or for others.");
        limits(e, "later", (x, n) -> x.later(0, n, 0), 0, 60);
        StrayWool x = Due.land(SHUTTLE + "sheep t at b curious 0;");
        int crimp = 0;
        for (int n = 0; n <= 60; n++) {
            e.are("sheep 0 behind " + n, new int[] {x.later(0, n, -1), x.later(0, n, 0), x.later(0, n, 1), x.later(0, n, 2), x.later(0, n, 3)},
                    -1, n % 2, n, crimp, -1);
            e.is("sheep 1 behind " + n, x.later(1, n, 0), 1 - n % 2);
            crimp = (3 * crimp + 1) % 64;
        }
        e.is("sheep 2", x.later(2, 0, 0), -1);
        for (int n : BESIDE) {
            e.is("sheep " + n, x.later(n, 0, 0), -1);
            e.is("what " + n, x.later(0, 0, n), -1);
        }
    }

    private static String backOnDay(int day) {
        return SHUTTLE + "stays day>0 and day<" + day + ";";
    }

    private static void home() {
        Edge e = Edge.of(16, "Behind how many DAYS AHEAD (1 .. 60) a SHEEP is in its HOME first; NONE when it is not,"
                + " or there is none such.");
        e.is("one that never strays", Due.land("field a lure 1;sheep s at a curious 0;").home(0), 1);
        e.is("one that strays to and fro", Due.land(SHUTTLE).home(0), 2);
        e.is("behind 59", Due.land(backOnDay(58)).home(0), 59);
        e.is("behind 60", Due.land(backOnDay(59)).home(0), 60);
        e.is("behind 61", Due.land(backOnDay(60)).home(0), -1);
        StrayWool away = Due.land(SHUTTLE);
        away.days(1);
        e.is("behind one", away.home(0), 1);
        StrayWool gone = Due.land("field a lure 0;field b lure 9;gap a to b miles 1;sheep s at a curious 0;lures lure;");
        e.is("never", gone.home(0), -1);
        gone.days(5);
        e.is("still never", gone.home(0), -1);
        gone.swing(0, 0);
        e.is("shut out", gone.home(0), -1);
        e.is("sheep 1", gone.home(1), -1);
        for (int n : BESIDE) {
            e.is("sheep " + n, away.home(n), -1);
        }
        StrayWool six = Due.land("field a lure 1;field b lure 1;gap a to b miles 1;" + TextEdges.sheep(6, "b") + "lures 1;");
        e.is("the last sheep", six.home(5), 2);
        e.is("sheep 6", six.home(6), -1);
    }

    private static void homeLate() {
        Edge e = Edge.of(16, "AHEAD are DAYS as they come from now on without DRAWS (60 at most, not beyond DAY 999)");
        for (int day = 995; day <= 999; day++) {
            StrayWool x = Due.land(SHUTTLE);
            Put.day(x, day);
            e.is("two days from " + day, x.home(0), day <= 997 ? 2 : -1);
            StrayWool still = Due.land("field a lure 1;sheep s at a curious 0;");
            Put.day(still, day);
            e.is("one day from " + day, still.home(0), day <= 998 ? 1 : -1);
        }
    }

    private static void gaps() {
        Edge e = Edge.of(17, "GAPS for a SHEEP, a FIELD, n DAYS AHEAD (0 .. 20), as bits; NONE without, when there"
                + " are none such, or n can't be.");
        limits(e, "gaps", (x, n) -> x.gaps(0, (n & 1) == 1 ? 1 : 0, n), 0, 20);
        StrayWool x = Due.land(SHUTTLE + "field c lure 1;sheep t at b curious 0;");
        e.is("where it is, behind no day", x.gaps(0, 0, 0), 0);
        e.is("where it is not, behind no day", x.gaps(0, 1, 0), -1);
        e.is("where it will be", x.gaps(0, 1, 1), 0);
        e.is("where it will not be", x.gaps(0, 0, 1), 1);
        e.is("the other sheep", x.gaps(1, 1, 1), 1);
        e.is("where none leads", x.gaps(0, 2, 1), -1);
        e.is("where none leads, behind 20", x.gaps(0, 2, 20), -1);
        e.is("field 3", x.gaps(0, 3, 1), -1);
        e.is("sheep 2", x.gaps(2, 0, 1), -1);
        for (int n : BESIDE) {
            e.is("sheep " + n, x.gaps(n, 0, 0), -1);
            e.is("field " + n, x.gaps(0, n, 0), -1);
        }
        e.is("nothing has changed", x.gap(0, 3), 1);
    }

    private static void gapsChosen() {
        Edge e = Edge.of(17, "GAPS for a SHEEP, a FIELD are the fewest, changed now (opened, shut), so that it is"
                + " there behind n DAYS; of like ones the least bits.");
        String fields = "field a lure 1;field b lure 5;field c lure 3;";
        StrayWool fewest = Due.land(fields + "gap a to b miles 1;gap b to a miles 1;gap a to c miles 1;gap c to a miles 9;shut 3;"
                + "sheep s at a curious 0;lures lure+miles;");
        e.is("one gap of more bits, not two of less", fewest.gaps(0, 2, 1), 8);
        StrayWool two = Due.land(fields + "gap a to b miles 1;gap b to a miles 1;gap a to c miles 1;sheep s at a curious 0;");
        e.is("two shut", two.gaps(0, 2, 1), 3);
        e.is("all shut", two.gaps(0, 0, 1), 7);
        String ten = "field a lure 1;field b lure 1;" + "gap a to b miles 1;".repeat(10) + "sheep s at a curious 0;lures 1;";
        e.is("ten shut", Due.land(ten).gaps(0, 0, 1), 1023);
        StrayWool shut = Due.land(ten + "shut 0;shut 1;shut 2;shut 3;shut 4;shut 5;shut 6;shut 7;shut 8;shut 9;");
        e.is("the least bits of ten", shut.gaps(0, 1, 1), 1);
        e.is("as it is", shut.gaps(0, 0, 20), 0);
        StrayWool last = Due.land("field a lure 1;field b lure 1;field c lure 1;" + "gap a to b miles 1;".repeat(9)
                + "gap a to c miles 1;shut 9;sheep s at a curious 0;lures 1;");
        e.is("all ten changed", last.gaps(0, 2, 1), 1023);
        StrayWool both = Due.land(fields + "gap a to b miles 1;gap a to c miles 1;shut 1;sheep s at a curious 0;");
        e.is("one opened, one shut", both.gaps(0, 2, 1), 3);
        // Back to a, where it has been once, nothing lures.
        StrayWool on = Due.land("field a lure 1;field b lure 9;field c lure 9;gap a to b miles 1;gap b to c miles 1;shut 0;shut 1;"
                + "sheep s at a curious 0;lures lure-seen;");
        e.is("behind one day", on.gaps(0, 1, 1), 1);
        e.is("behind two days there", on.gaps(0, 2, 2), 3);
        e.is("behind two days not on", on.gaps(0, 1, 2), 1);
        e.is("behind three days back", on.gaps(0, 1, 3), 1);
    }

    /** By all changes of the gaps one after another, each looked at with later(). */
    private static void gapsTried() {
        Edge e = Edge.of(17, "GAPS for a SHEEP, a FIELD are the fewest, changed now (opened, shut), so that it is"
                + " there behind n DAYS");
        String[] lands = {SHUTTLE, SHUTTLE + "stays day=1;", SHUTTLE + "gap b to a miles 5;stays day>3;", Lands.HILLS, Lands.HILLS + "shut 0;shut 2;",
            Lands.HILLS + "lures lure+curious-seen*2-day;stays day=1 or wool>20;", Lands.HILLS + "gap b to c miles 9;shut 3;lures 40-wool+miles-seen*3;",
            Lands.HILLS + "gap a to b miles 1;lures lure*(day+1)-seen*miles;stays wool*3>day*20;"};
        for (String land : lands) {
            StrayWool x = Due.land(land);
            StrayWool[] changed = new StrayWool[1 << x.has(1)];
            for (int bits = 0; bits < changed.length; bits++) {
                changed[bits] = Due.land(land);
                for (int k = 0; k < x.has(1); k++) {
                    if ((bits >> k & 1) == 1) {
                        changed[bits].swing(k, 1 - x.gap(k, 3));
                    }
                }
            }
            for (int n : new int[] {0, 1, 2, 3, 4, 5, 8, 13, 19, 20}) {
                for (int f = 0; f < x.has(0); f++) {
                    e.is("field " + f + " behind " + n + " of " + land, x.gaps(0, f, n), fewest(changed, f, n));
                }
            }
        }
    }

    private static int fewest(StrayWool[] changed, int field, int n) {
        int best = -1;
        for (int bits = 0; bits < changed.length; bits++) {
            boolean fewer = best < 0 || Integer.bitCount(bits) < Integer.bitCount(best);
            if (fewer && changed[bits].later(0, n, 0) == field) {
                best = bits;
            }
        }
        return best;
    }

    private static void rumour() {
        Edge e = Edge.of(18, "A RUMOUR, n DAYS AHEAD (1 .. 40): the GAP (what 0; NONE for none), the miles of all"
                + " then (1). NONE when n can't be, or for others.");
        limits(e, "rumour", (x, n) -> x.rumour(n, 1), 1, 40);
        StrayWool x = Due.land(SHUTTLE + "gap b to a miles 9;shut 1;stays day=40;");
        e.are("none", new int[] {x.rumour(1, -1), x.rumour(1, 0), x.rumour(1, 1), x.rumour(1, 2)}, -1, -1, 1, -1);
        e.are("behind 40", new int[] {x.rumour(40, 0), x.rumour(40, 1)}, -1, 40);
        e.is("nothing has changed", x.has(4), 1);
        for (int n : BESIDE) {
            e.is("what " + n, x.rumour(1, n), -1);
        }
        StrayWool none = new StrayWool();
        e.are("without sheep", new int[] {none.rumour(1, 0), none.rumour(1, 1), none.rumour(40, 1), none.rumour(41, 1), none.rumour(0, 1)},
                -1, 0, 0, -1, -1);
    }

    private static void rumourChosen() {
        Edge e = Edge.of(18, "A RUMOUR is the one GAP which, changed now, or none, lets all SHEEP together have most"
                + " miles in their WOOL behind n DAYS;"
                + " of like ones none, then the first.");
        String fields = "field a lure 1;field b lure 1;";
        String tail = "sheep s at a curious 0;sheep t at b curious 0;lures miles;";
        StrayWool like = Due.land(fields + "gap a to b miles 4;gap a to b miles 4;gap a to b miles 4;shut 2;" + tail);
        e.are("none of like ones", new int[] {like.rumour(1, 0), like.rumour(1, 1)}, -1, 8);
        StrayWool first = Due.land(fields + "gap a to b miles 4;gap a to b miles 5;gap a to b miles 5;shut 1;shut 2;" + tail);
        e.are("the first of like ones", new int[] {first.rumour(1, 0), first.rumour(1, 1)}, 1, 10);
        StrayWool next = Due.land(fields + "gap a to b miles 4;gap a to b miles 5;gap a to b miles 6;shut 1;shut 2;" + tail);
        e.are("one mile more", new int[] {next.rumour(1, 0), next.rumour(1, 1)}, 2, 12);
        StrayWool shut = Due.land(fields + "gap a to b miles 4;gap a to b miles 5;" + "sheep s at a curious 0;lures 9-miles;");
        e.are("shut is best", new int[] {shut.rumour(1, 0), shut.rumour(1, 1)}, 0, 5);
        StrayWool last = Due.land(fields + "gap a to b miles 1;".repeat(9) + "gap a to b miles 2;shut 9;" + tail);
        e.are("the last of ten", new int[] {last.rumour(40, 0), last.rumour(40, 1)}, 9, 160);
        // One sheep has 999 miles already, so that what the other one has decides.
        StrayWool cut = Due.land(fields + "gap a to b miles 1;gap a to b miles 2;shut 1;" + tail);
        Put.miles(cut, 0, 999);
        Put.miles(cut, 1, 997);
        e.are("999 at most", new int[] {cut.rumour(1, 0), cut.rumour(1, 1)}, 1, 1998);
        Put.miles(cut, 1, 998);
        e.are("999 at most, none is as good", new int[] {cut.rumour(1, 0), cut.rumour(1, 1)}, -1, 1998);
    }

    private static void way() {
        Edge e = Edge.of(19, "The WAY between two FIELDS (itself: 0): its miles; NONE without one, or when there are"
                + " none such.");
        StrayWool x = Due.land(TextEdges.fields(8) + "gap a to b miles 1;gap h to g miles 9;");
        for (int f = 0; f < 8; f++) {
            e.is("itself " + f, x.way(f, f), 0);
            e.is("from a to " + f, x.way(0, f), f == 0 ? 0 : f == 1 ? 1 : -1);
            e.is("from " + f + " to h", x.way(f, 7), f == 7 ? 0 : f == 6 ? 9 : -1);
        }
        e.is("field 8", x.way(8, 8), -1);
        e.is("to field 8", x.way(0, 8), -1);
        e.is("from field 8", x.way(8, 0), -1);
        for (int n : BESIDE) {
            e.is("from " + n, x.way(n, 0), -1);
            e.is("to " + n, x.way(0, n), -1);
            e.is("itself " + n, x.way(n, n), -1);
        }
    }

    private static void wayChosen() {
        Edge e = Edge.of(19, "The WAY between two FIELDS is the fewest miles through OPEN GAPS.");
        String row = "gap h to g miles 9;gap g to f miles 9;gap f to e miles 9;gap e to d miles 9;gap d to c miles 9;gap c to b miles 9;"
                + "gap b to a miles 9;";
        StrayWool x = Due.land(TextEdges.fields(8) + row);
        e.is("seven gaps", x.way(0, 7), 63);
        e.is("back", x.way(7, 0), 63);
        x.swing(6, 0);
        e.is("shut", x.way(0, 7), -1);
        e.is("six gaps", x.way(1, 7), 54);
        StrayWool around = Due.land(TextEdges.fields(3) + "gap a to b miles 5;gap b to c miles 2;gap c to a miles 2;gap a to b miles 6;");
        e.is("around is less", around.way(0, 1), 4);
        around.swing(1, 0);
        e.is("straight", around.way(0, 1), 5);
        around.swing(0, 0);
        e.is("the other one", around.way(0, 1), 6);
        around.swing(3, 0);
        e.is("none", around.way(0, 1), -1);
        StrayWool like = Due.land(TextEdges.fields(3) + "gap a to b miles 4;gap b to c miles 2;gap c to a miles 2;");
        e.is("around is like", like.way(0, 1), 4);
        StrayWool more = Due.land(TextEdges.fields(3) + "gap a to b miles 3;gap b to c miles 2;gap c to a miles 2;");
        e.is("around is more", more.way(0, 1), 3);
    }

    private static void ways() {
        Edge e = Edge.of(23, "How many WAYS to a CRIMP (0 .. 63) there are from a FIELD through n GAPS (0 .. 12) that"
                + " are OPEN now; NOTHING when there are none such, or n can't be.");
        int crimp = 0;
        for (int n = 0; n <= 12; n++) {
            StrayWool one = Due.land(SHUTTLE);
            for (int c = 0; c < 64; c++) {
                e.is("crimp " + c + " through " + n, one.ways(n % 2, n, c), c == crimp ? 1 : 0);
            }
            e.is("crimp -1 through " + n, one.ways(0, n, -1), StrayWool.NOTHING);
            e.is("crimp 64 through " + n, one.ways(0, n, 64), StrayWool.NOTHING);
            crimp = (3 * crimp + 1) % 64;
        }
        StrayWool x = Due.land(SHUTTLE);
        e.is("n 13", x.ways(0, 13, 0), StrayWool.NOTHING);
        e.is("field 2", x.ways(2, 0, 0), StrayWool.NOTHING);
        for (int n : BESIDE) {
            e.is("field " + n, x.ways(n, 0, 0), StrayWool.NOTHING);
            e.is("n " + n, x.ways(0, n, 0), StrayWool.NOTHING);
            e.is("crimp " + n, x.ways(0, 0, n), StrayWool.NOTHING);
        }
        Put.day(x, 999);
        e.is("gaps are no days", x.ways(0, 12, 56), 1);
        x.swing(0, 0);
        e.is("shut, through none", x.ways(0, 0, 0), 1);
        e.is("shut, through one", x.ways(0, 1, 1), 0);
        Put.crimp(x, 0, 5);
        e.is("a sheep's crimp does not matter", x.ways(0, 0, 0), 1);
    }

    private static void waysCounted() {
        Edge e = Edge.of(23, "WAYS to a CRIMP are rows of n GAPS (0 .. 12) through which one goes from a FIELD, each"
                + " of them leading on from where one is,"
                + " by which a CRIMP that is 0 ahead becomes as told.");
        String tenGaps = "field a lure 1;field b lure 1;" + "gap a to b miles 1;".repeat(10);
        long power = 1;
        for (int n = 0; n <= 12; n++) {
            StrayWool x = Due.land(tenGaps);
            long all = 0;
            for (int c = 0; c < 64; c++) {
                all += x.ways(0, n, c);
            }
            e.is("all ways through " + n, all, power);
            power *= 10;
        }
        StrayWool ten = Due.land(tenGaps);
        e.is("one gap", ten.ways(0, 1, 10), 1);
        e.is("no gap 10", ten.ways(0, 1, 11), 0);
        // By k, then by l, the crimp is 3 k + l + 4.
        e.is("two gaps, 31 by 6 and 9, 7 and 6, 8 and 3, 9 and 0", ten.ways(0, 2, 31), 4);
        e.is("two gaps, 40 by 9 and 9", ten.ways(0, 2, 40), 1);
        e.is("two gaps, 41 by none", ten.ways(0, 2, 41), 0);
        StrayWool eight = Due.land(TextEdges.fields(8) + "gap h to g miles 1;gap a to h miles 1;");
        e.is("from the last field", eight.ways(7, 1, 1), 1);
        e.is("to the last field", eight.ways(0, 1, 2), 1);
        e.is("by the last field", eight.ways(0, 2, 7), 1);
        e.is("at the last field", eight.ways(7, 0, 0), 1);
        StrayWool row = Due.land("field a lure 1;field b lure 1;field c lure 1;gap a to b miles 1;gap b to c miles 1;");
        e.is("on to c", row.ways(0, 2, 5), 1);
        e.is("back to a", row.ways(0, 2, 4), 1);
        e.is("gap 1 does not lead from a", row.ways(0, 1, 2), 0);
        e.is("gap 1 leads from c", row.ways(2, 1, 2), 1);
        row.swing(1, 0);
        e.is("shut", row.ways(0, 2, 5), 0);
    }
}
