import java.math.BigInteger;

/** Edges of part II of the terms: how days pass, what acts do (promises 12 to 14, 27 to 33). */
final class DayEdges {
    private static final String TWO = "field a lure 1;field b lure 1;";

    private DayEdges() {
    }

    static void run() {
        atFirst();
        leads();
        mostAboveNothing();
        ofLikeOnes();
        beenOnceMore();
        milesMore();
        crimp();
        dayMore();
        shorn();
        purse();
        led();
        bySeed();
        whichGap();
        keptForty();
        acts();
        lastTwenty();
        draws();
    }

    private static StrayWool pair(String more) {
        return Due.land(TWO + "gap a to b miles 5;sheep s at a curious 3;" + more);
    }

    private static void atFirst() {
        Edge e = Edge.of(10, "At first it is DAY 0; each SHEEP is in its HOME, where it has been once, its WOOL has 0"
                + " miles, its CRIMP is 0,"
                + " it is not LED; nothing is in the purse.");
        StrayWool x = Due.land(LandEdges.full());
        e.is("day", x.has(3), 0);
        e.is("purse", x.has(5), 0);
        for (int s = 0; s < 6; s++) {
            e.are("sheep " + s, new int[] {x.sheep(s, 0), x.sheep(s, 2), x.sheep(s, 3), x.sheep(s, 4)}, s, 0, 0, 0);
            for (int f = 0; f < 8; f++) {
                e.is("been in " + f, x.seen(s, f), f == s ? 1 : 0);
            }
        }
    }

    private static void leads() {
        Edge e = Edge.of(28, "A GAP leads from each of its two FIELDS to the other one, if it is OPEN.");
        StrayWool x = Due.land("field a lure 1;field b lure 1;field c lure 1;gap a to b miles 1;"
                + "sheep s at a curious 0;sheep t at b curious 0;sheep u at c curious 0;");
        e.is("from the first", x.lead(0, 0), true);
        e.is("to the other", x.sheep(0, 0), 1);
        e.is("from the other", x.lead(1, 0), true);
        e.is("to the first", x.sheep(1, 0), 0);
        e.is("from neither", x.lead(2, 0), false);
        x.swing(0, 0);
        e.is("shut, from the first", x.lead(1, 0), false);
        e.is("shut, from the other", x.lead(0, 0), false);
        x.swing(0, 1);
        e.is("open again", x.lead(0, 0), true);
    }

    private static void mostAboveNothing() {
        Edge e = Edge.of(31, "A DAY: SHEEP by SHEEP, for which the TEST of stays does not hold: of the GAPS that lead"
                + " from its FIELD,"
                + " the one by which the SUM of lures is most, if that is above 0, of like ones the first: it STRAYS"
                + " through it.");
        int[] want = {0, 0, 1, 1};
        for (int lured = -1; lured <= 2; lured++) {
            StrayWool x = pair("lures 5-6+" + (lured + 1) + ";");
            e.is("strays, lured by " + lured, x.strays(0), want[lured + 1] - 1);
            e.is("days, lured by " + lured, x.days(1), want[lured + 1]);
            e.is("its field, lured by " + lured, x.sheep(0, 0), want[lured + 1]);
        }
        StrayWool stays = Due.land(TWO + "gap a to b miles 5;sheep s at a curious 3;sheep t at a curious 4;sheep u at b curious 5;"
                + "lures 1;stays curious=4;");
        e.is("two of three", stays.days(1), 2);
        e.are("fields", new int[] {stays.sheep(0, 0), stays.sheep(1, 0), stays.sheep(2, 0)}, 1, 0, 0);
        e.are("sheep by sheep", new int[] {stays.kept(0, 1), stays.kept(1, 1)}, 0, 2);
        e.is("once more", stays.days(1), 2);
        e.are("day by day", new int[] {stays.kept(0, 0), stays.kept(1, 0), stays.kept(2, 0), stays.kept(3, 0)}, 0, 0, 1, 1);
    }

    private static void ofLikeOnes() {
        Edge e = Edge.of(12, "of like ones the first");
        String land = TWO + "gap a to b miles 3;gap b to a miles 4;gap a to b miles 4;gap a to b miles 2;sheep s at a curious 0;";
        StrayWool x = Due.land(land + "lures miles;");
        e.is("the first of the greatest", x.strays(0), 1);
        x.swing(1, 0);
        e.is("the next one", x.strays(0), 2);
        x.swing(2, 0);
        e.is("the greatest left", x.strays(0), 0);
        e.is("all alike", Due.land(land + "lures 1;").strays(0), 0);
        e.is("the last is greatest", Due.land(land + "lures 5-miles;").strays(0), 3);
        e.is("one more", Due.land(land + "lures 4-miles;").strays(0), 3);
        e.is("none above 0", Due.land(land + "lures 2-miles;").strays(0), -1);
        e.is("all above 10 to the 6 are like", Due.land(land + "lures 1000*1000+miles;").strays(0), 0);
    }

    private static void beenOnceMore() {
        Edge e = Edge.of(11, "To STRAY through GAP k: it is in the FIELD beyond, where it has been once more (99 at"
                + " most)");
        int[][] rows = {{0, 1}, {1, 2}, {97, 98}, {98, 99}, {99, 99}};
        for (int[] row : rows) {
            StrayWool x = pair("lures 1;");
            Put.times(x, 0, 1, row[0]);
            e.is("ahead, from " + row[0], x.later(0, 1, 0), 1);
            x.days(1);
            e.is("strayed, from " + row[0], x.seen(0, 1), row[1]);
            e.is("where it was", x.seen(0, 0), 1);
            StrayWool led = pair("");
            Put.times(led, 0, 1, row[0]);
            led.lead(0, 0);
            e.is("led, from " + row[0], led.seen(0, 1), row[1]);
        }
    }

    private static void milesMore() {
        Edge e = Edge.of(10, "its WOOL has its miles more (999 at most)");
        int[][] rows = {{0, 5}, {1, 6}, {993, 998}, {994, 999}, {995, 999}, {998, 999}, {999, 999}};
        for (int[] row : rows) {
            StrayWool x = pair("lures 1;");
            Put.miles(x, 0, row[0]);
            e.is("later, from " + row[0], x.later(0, 1, 1), row[1]);
            x.days(1);
            e.is("strayed, from " + row[0], x.sheep(0, 2), row[1]);
            e.is("kept, from " + row[0], x.kept(0, 3), row[1]);
            StrayWool led = pair("");
            Put.miles(led, 0, row[0]);
            led.lead(0, 0);
            e.is("led, from " + row[0], led.sheep(0, 2), row[1]);
        }
    }

    private static void crimp() {
        Edge e = Edge.of(10, "its CRIMP is what is left of 3 times its CRIMP, k and 1 together by 64.");
        // 3 c + k + 1 is 1, 63, 64, 65, 127, 128, 129, 190, 191, 192, 199.
        int[][] rows = {{0, 0, 1}, {20, 2, 63}, {20, 3, 0}, {21, 0, 0}, {21, 1, 1}, {42, 0, 63}, {42, 1, 0}, {42, 2, 1}, {63, 0, 62},
            {63, 1, 63}, {63, 2, 0}, {63, 9, 7}, {0, 9, 10}};
        for (int[] row : rows) {
            StrayWool x = Due.land(TWO + "gap a to b miles 1;".repeat(10) + "sheep s at a curious 0;lures 1;");
            for (int k = 0; k < row[1]; k++) {
                Put.open(x, k, 0);
            }
            Put.crimp(x, 0, row[0]);
            e.is("ahead, crimp " + row[0] + " by gap " + row[1], x.later(0, 1, 2), row[2]);
            x.days(1);
            e.is("crimp " + row[0] + " by gap " + row[1], x.sheep(0, 3), row[2]);
        }
    }

    private static void dayMore() {
        Edge e = Edge.of(31, "The DAY is one more (999 at most).");
        for (int day : new int[] {0, 1, 255, 256, 997, 998}) {
            StrayWool x = pair("");
            Put.day(x, day);
            e.is("a day behind " + day, x.days(1) >= 0, true);
            e.is("day", x.has(3), day + 1);
        }
        StrayWool x = pair("lures 1;");
        Put.day(x, 999);
        e.is("no day behind 999", x.days(1), -1);
        e.is("day", x.has(3), 999);
        e.is("where it was", x.sheep(0, 0), 0);
    }

    private static void shorn() {
        Edge e = Edge.of(27, "To SHEAR a SHEEP: the SUM of worth, 0 .. 9999 (below is 0, above 9999), is more in the"
                + " purse (99999 at most),"
                + " its WOOL has 0 miles, its CRIMP is 0, it is not LED.");
        String[] worth = {"0-1000*1000", "0-1", "0", "1", "9998", "9999", "9999+1", "1000*1000"};
        int[] want = {0, 0, 0, 1, 9998, 9999, 9999, 9999};
        for (int i = 0; i < worth.length; i++) {
            StrayWool x = pair("worth " + worth[i] + ";");
            x.lead(0, 0);
            e.is("shear, worth " + worth[i], x.shear(0), want[i]);
            e.is("purse, worth " + worth[i], x.has(5), want[i]);
            e.are("shorn", new int[] {x.sheep(0, 0), x.sheep(0, 2), x.sheep(0, 3), x.sheep(0, 4)}, 1, 0, 0, 0);
            e.are("been", new int[] {x.seen(0, 0), x.seen(0, 1)}, 1, 1);
        }
    }

    private static void purse() {
        Edge e = Edge.of(27, "is more in the purse (99999 at most)");
        int[][] rows = {{0, 7, 7}, {99991, 7, 99998}, {99992, 7, 99999}, {99993, 7, 99999}, {99999, 7, 99999}, {99999, 0, 99999},
            {90000, 9998, 99998}, {90000, 9999, 99999}, {90001, 9999, 99999}, {99998, 9999, 99999}};
        for (int[] row : rows) {
            StrayWool x = pair("worth " + row[1] + ";");
            Put.purse(x, row[0]);
            Put.miles(x, 0, 1);
            e.is("brings all the same", x.shear(0), row[1]);
            e.is("purse " + row[0] + " and " + row[1], x.has(5), row[2]);
        }
    }

    private static void led() {
        Edge e = Edge.of(28, "To LEAD a SHEEP through a GAP that leads from its FIELD: as if it STRAYED, but that it"
                + " is LED then.");
        StrayWool x = pair("stays all;lures 0;");
        e.is("though it stays, though nothing lures", x.lead(0, 0), true);
        e.are("sheep", new int[] {x.sheep(0, 0), x.sheep(0, 2), x.sheep(0, 3), x.sheep(0, 4), x.seen(0, 1)}, 1, 5, 1, 1, 1);
        e.are("no day, nothing kept", new int[] {x.has(3), x.has(7)}, 0, 0);
        e.is("led back", x.lead(0, 0), true);
        e.are("sheep", new int[] {x.sheep(0, 0), x.sheep(0, 2), x.sheep(0, 3), x.sheep(0, 4), x.seen(0, 0)}, 0, 10, 4, 1, 2);
        StrayWool strayed = pair("lures 1;");
        strayed.days(1);
        e.is("one that strays is not led", strayed.sheep(0, 4), 0);
        strayed.lead(0, 0);
        strayed.days(1);
        e.is("one that was led stays so when it strays", strayed.sheep(0, 4), 1);
        e.is("and is kept when it strays", strayed.has(7), 2);
    }

    private static int draw(long[] seed, int m) {
        BigInteger x = BigInteger.valueOf(1103515245L).multiply(BigInteger.valueOf(seed[0])).add(BigInteger.valueOf(12345));
        seed[0] = x.mod(BigInteger.TWO.pow(31)).longValue();
        return (int) (seed[0] / 64 % m);
    }

    /** The least seed whose first draw of 100 is this one. */
    static int seedThatDraws(int due) {
        int seed = 0;
        while (draw(new long[] {seed}, 100) != due) {
            seed++;
        }
        return seed;
    }

    private static void bySeed() {
        Edge e = Edge.of(32, "BY THE SEED a DAY begins with a DRAW of 100: below storm, if there are GAPS, a DRAW of"
                + " these: that one is shut,"
                + " if it is OPEN, else opened.");
        for (int seed : new int[] {0, 1, 2, 3, 1000, Integer.MAX_VALUE}) {
            int first = draw(new long[] {seed}, 100);
            for (int storm = Math.max(0, first - 1); storm <= Math.min(100, first + 1); storm++) {
                StrayWool x = pair("storm " + storm + ";lures 1;");
                x.seed(seed);
                boolean comes = first < storm;
                e.is("drawn " + first + ", storm " + storm, x.chance(1), comes ? 1 : 0);
                e.is("the gap, drawn " + first + ", storm " + storm, x.gap(0, 3), comes ? 0 : 1);
                e.is("the sheep, drawn " + first + ", storm " + storm, x.sheep(0, 0), comes ? 0 : 1);
            }
        }
        StrayWool opened = pair("storm 100;lures 1;shut 0;");
        e.is("a storm opens", opened.chance(1), 1);
        e.are("opened ahead of the day", new int[] {opened.gap(0, 3), opened.sheep(0, 0), opened.has(7)}, 1, 1, 1);
        StrayWool none = Due.land("field a lure 1;sheep s at a curious 1;storm 100;");
        e.is("no gaps, no storms", none.chance(100), 0);
        e.is("the days pass", none.has(3), 100);
        long[] seed = {1};
        for (int n = 0; n < 100; n++) {
            draw(seed, 100);
        }
        int next = draw(seed, 100);
        Due.upland(none, TWO + "gap a to b miles 1;storm " + next + ";");
        e.is("without gaps one draw a day, so that the next is " + next, none.chance(1), 0);
        StrayWool again = Due.land("field a lure 1;sheep s at a curious 1;storm 100;");
        again.chance(100);
        Due.upland(again, TWO + "gap a to b miles 1;storm " + (next + 1) + ";");
        e.is("which is below " + (next + 1), again.chance(1), 1);
    }

    private static void whichGap() {
        Edge e = Edge.of(32, "a DRAW of these: that one is shut, if it is OPEN, else opened");
        for (int gaps : new int[] {1, 2, 3, 7, 9, 10}) {
            StrayWool x = Due.land(TWO + "gap a to b miles 1;".repeat(gaps) + "storm 50;");
            int[] open = new int[gaps];
            java.util.Arrays.fill(open, 1);
            long[] seed = {1};
            for (int day = 0; day < 30; day++) {
                boolean comes = draw(seed, 100) < 50;
                if (comes) {
                    open[draw(seed, gaps)] ^= 1;
                }
                e.is("storms of day " + day, x.chance(1), comes ? 1 : 0);
                int[] got = new int[gaps];
                for (int k = 0; k < gaps; k++) {
                    got[k] = x.gap(k, 3);
                }
                e.are("open of " + gaps + " behind day " + day, got, open);
            }
        }
    }

    private static void keptForty() {
        Edge e = Edge.of(14, "KEPT is each that STRAYS (not what is LED): DAY, SHEEP, GAP, the miles in its WOOL"
                + " then; the last 40 are told.");
        StrayWool x = pair("lures 1;");
        for (int n = 1; n <= 85; n++) {
            x.days(1);
            if (n > 2 && n % 40 > 2 && n % 40 < 39) {
                continue;
            }
            int told = Math.min(40, n);
            e.is("told of " + n, x.has(7), told);
            e.is("the oldest of " + n, x.kept(0, 0), n - told);
            e.is("its miles", x.kept(0, 3), 5 * (n - told + 1));
            e.is("the newest of " + n, x.kept(told - 1, 0), n - 1);
            e.is("behind it", x.kept(told, 0), -1);
        }
        x.lead(0, 0);
        e.is("what is led is not told", x.kept(39, 0), 84);
        x.chance(1);
        e.is("by the seed it is", x.kept(39, 0), 85);
        x.undo();
        e.is("undone", x.kept(39, 0), 84);
        e.is("undone, the oldest", x.kept(0, 0), 45);
        StrayWool six = Due.land(TWO + "gap a to b miles 1;" + TextEdges.sheep(6, "a") + "lures 1;");
        six.days(7);
        e.are("42 of six", new int[] {six.has(7), six.kept(0, 0), six.kept(0, 1), six.kept(39, 0), six.kept(39, 1)}, 40, 0, 2, 6, 5);
    }

    private static void acts() {
        Edge e = Edge.of(33, "ACTS: to SHEAR; to LEAD; a GAP is opened, or shut; a SHEEP is told of a FIELD (as if it"
                + " had been there so many times,"
                + " 0 .. 99); DAYS; DAYS by the seed.");
        StrayWool x = pair("lures 1;storm 100;");
        x.lead(0, 0);
        e.is("to lead", x.has(9), 1);
        x.shear(0);
        e.is("to shear", x.has(9), 2);
        x.swing(0, 0);
        e.is("shut", x.has(9), 3);
        x.swing(0, 1);
        e.is("opened", x.has(9), 4);
        x.tell(0, 0, 0);
        e.is("told 0", x.has(9), 5);
        x.tell(0, 0, 99);
        e.is("told 99", x.has(9), 6);
        e.is("been so often", x.seen(0, 0), 99);
        x.days(3);
        e.is("days", x.has(9), 7);
        x.chance(3);
        e.is("days by the seed", x.has(9), 8);
        x.seed(4);
        x.image();
        Due.feel(x, 1, 0, 1);
        Due.ask(x, "total 1");
        x.shear(1);
        x.lead(0, 1);
        x.swing(0, 2);
        x.tell(0, 0, 100);
        x.tell(0, 0, -1);
        x.days(101);
        x.chance(0);
        e.is("nothing else, nor what is refused", x.has(9), 8);
        for (int n = 7; n >= 0; n--) {
            e.is("undo", x.undo(), true);
            e.is("left", x.has(9), n);
        }
        e.are("as at first", new int[] {x.sheep(0, 0), x.sheep(0, 2), x.seen(0, 0), x.seen(0, 1), x.has(3), x.has(5), x.has(7)},
                0, 0, 1, 0, 0, 0, 0);
    }

    private static void lastTwenty() {
        Edge e = Edge.of(33, "The last 20 can be undone.");
        for (int acts : new int[] {0, 1, 19, 20, 21, 40, 41}) {
            StrayWool x = pair("lures 1;");
            for (int n = 0; n < acts; n++) {
                x.days(1);
            }
            int can = Math.min(20, acts);
            e.is("of " + acts, x.has(9), can);
            for (int n = 1; n <= can; n++) {
                e.is("undo " + n + " of " + acts, x.undo(), true);
                e.is("day", x.has(3), acts - n);
                e.is("miles", x.sheep(0, 2), 5 * (acts - n));
            }
            e.is("no more of " + acts, x.undo(), false);
            e.is("day", x.has(3), acts - can);
        }
    }

    private static void draws() {
        Edge e = Edge.of(34, "A DRAW of m: x (the seed) becomes (1103515245 x + 12345) mod 2 to the 31; floor(x / 64)"
                + " mod m.");
        int[] seeds = {0, 1, 2, 63, 64, 65535, 65536, 1 << 30, Integer.MAX_VALUE - 1, Integer.MAX_VALUE};
        for (int first : seeds) {
            long[] seed = {first};
            // Each draw of 100 is found between the storm that it is below and the one that it is not below.
            for (int day = 0; day < 10; day++) {
                int now = (int) seed[0];
                int due = draw(seed, 100);
                StrayWool below = pair("storm " + (due + 1) + ";");
                below.seed(now);
                e.is("seed " + now + " is below " + (due + 1), below.chance(1), 1);
                StrayWool not = pair("storm " + due + ";");
                not.seed(now);
                e.is("seed " + now + " is not below " + due, not.chance(1), 0);
            }
        }
    }
}
