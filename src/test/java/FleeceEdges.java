/** Edges of promises 20 to 22 and of part III of the terms: when to shear, coats, watches. */
final class FleeceEdges {
    private static final int[] BESIDE = {Integer.MIN_VALUE, -1, Integer.MAX_VALUE};

    private FleeceEdges() {
    }

    static void run() {
        waits();
        waitsChosen();
        coat();
        coatChosen();
        watch();
        watchChosen();
    }

    private static void waits() {
        Edge e = Edge.of(20, "To WAIT with a SHEEP, n DAYS AHEAD (0 .. 60): how many (what 0), what it brings then"
                + " (1). NONE when there is none such, n can't be, or for others.");
        AheadEdges.limits(e, "waits", (x, n) -> x.waits(0, n, 0), 0, 60);
        StrayWool x = Due.land(AheadEdges.SHUTTLE + "worth day*2;");
        for (int n : new int[] {0, 1, 59, 60}) {
            e.are("behind " + n, new int[] {x.waits(0, n, -1), x.waits(0, n, 0), x.waits(0, n, 1), x.waits(0, n, 2)}, -1, n, 2 * n, -1);
        }
        e.is("sheep 1", x.waits(1, 0, 0), -1);
        for (int n : BESIDE) {
            e.is("sheep " + n, x.waits(n, 0, 0), -1);
            e.is("what " + n, x.waits(0, 0, n), -1);
        }
        e.is("nothing is shorn", x.has(5), 0);
    }

    private static void waited(Edge e, String worth, int n, int days, int brings) {
        StrayWool x = Due.land(AheadEdges.SHUTTLE + "worth " + worth + ";");
        e.is("worth " + worth + " in " + n + ", days", x.waits(0, n, 0), days);
        e.is("worth " + worth + " in " + n + ", brings", x.waits(0, n, 1), brings);
    }

    private static void waitsChosen() {
        Edge e = Edge.of(20, "To WAIT with a SHEEP are the DAYS AHEAD (0 .. n), behind which, SHORN then, it brings"
                + " most (the SUM of worth, cut as told); of like ones the fewest.");
        waited(e, "5", 60, 0, 5);
        waited(e, "60-day", 60, 0, 60);
        waited(e, "min(day,7)", 6, 6, 6);
        waited(e, "min(day,7)", 7, 7, 7);
        waited(e, "min(day,7)", 8, 7, 7);
        waited(e, "9990+day", 8, 8, 9998);
        waited(e, "9990+day", 9, 9, 9999);
        waited(e, "9990+day", 10, 9, 9999);
        waited(e, "day-10", 10, 0, 0);
        waited(e, "day-10", 11, 11, 1);
        waited(e, "wool*(10-wool)", 4, 4, 24);
        waited(e, "wool*(10-wool)", 5, 5, 25);
        waited(e, "wool*(10-wool)", 60, 5, 25);
        waited(e, "max(5-day,day-5)", 9, 0, 5);
        waited(e, "max(5-day,day-5)", 10, 0, 5);
        waited(e, "max(5-day,day-5)", 11, 11, 6);
        StrayWool led = Due.land(AheadEdges.SHUTTLE + "worth led*(10-day);");
        led.lead(0, 0);
        e.is("led one day, not until it is shorn", led.waits(0, 3, 1), 10);
        led.days(2);
        e.is("from now on", led.waits(0, 3, 1), 8);
    }

    private static StrayWool six(int... miles) {
        StrayWool x = Due.land("field a lure 1;" + TextEdges.sheep(6, "a"));
        Put.allMiles(x, miles);
        return x;
    }

    private static void coat() {
        Edge e = Edge.of(21, "A COAT of n miles (1 .. 9999): SHEEP, as bits; NONE when all are not enough, or n can't"
                + " be.");
        StrayWool most = six(999, 999, 999, 999, 999, 999);
        int[][] rows = {{Integer.MIN_VALUE, -1}, {-1, -1}, {0, -1}, {1, 1}, {998, 1}, {999, 1}, {1000, 3}, {1998, 3}, {1999, 7}, {4995, 31},
            {4996, 63}, {5993, 63}, {5994, 63}, {5995, -1}, {9998, -1}, {9999, -1}, {10000, -1}, {Integer.MAX_VALUE, -1}};
        for (int[] row : rows) {
            e.is("coat " + row[0], most.coat(row[0]), row[1]);
        }
        StrayWool bare = six(0, 0, 0, 0, 0, 0);
        e.is("no miles, 0", bare.coat(0), -1);
        e.is("no miles, 1", bare.coat(1), -1);
        StrayWool last = six(0, 0, 0, 0, 0, 1);
        e.is("one mile", last.coat(1), 32);
        e.is("two miles", last.coat(2), -1);
        e.is("without sheep", new StrayWool().coat(1), -1);
    }

    private static void coatChosen() {
        Edge e = Edge.of(21, "A COAT of n miles are SHEEP whose WOOL has as many miles together, or more: the fewest"
                + " of them, of like ones with the fewest miles, then the least bits.");
        StrayWool x = six(10, 20, 30, 30, 5, 0);
        // Each row: up to so many miles this coat is the best.
        int[][] upTo = {{5, 16}, {10, 1}, {20, 2}, {30, 4}, {35, 20}, {40, 5}, {50, 6}, {60, 12}, {65, 28}, {70, 13}, {80, 14}, {85, 30},
            {90, 15}, {95, 31}};
        int n = 1;
        for (int[] row : upTo) {
            for (; n <= row[0]; n++) {
                e.is("coat " + n, x.coat(n), row[1]);
            }
        }
        e.is("coat 96", x.coat(96), -1);
        StrayWool fewer = six(4, 4, 4, 0, 0, 12);
        e.is("one of more bits, not three of less", fewer.coat(12), 32);
        e.is("one more mile takes two", fewer.coat(13), 33);
    }

    private static void watch() {
        Edge e = Edge.of(22, "A WATCH, n DAYS AHEAD (0 .. 60), as bits; NONE when n can't be.");
        AheadEdges.limits(e, "watch", (x, n) -> x.watch(n), 0, 60);
        StrayWool none = new StrayWool();
        e.are("without fields", new int[] {none.watch(-1), none.watch(0), none.watch(60), none.watch(61)}, -1, 0, 0, -1);
        StrayWool last = Due.land(TextEdges.fields(8) + "sheep s at h curious 0;");
        e.is("the last field", last.watch(0), 128);
        StrayWool all = Due.land(TextEdges.fields(8) + "sheep s at a curious 0;sheep t at b curious 0;sheep u at c curious 0;"
                + "sheep v at d curious 0;sheep w at g curious 0;sheep x at h curious 0;");
        e.is("six fields", all.watch(0), 1 + 2 + 4 + 8 + 64 + 128);
        e.is("no sheep", Due.land(TextEdges.fields(8)).watch(0), 0);
    }

    private static void watchChosen() {
        Edge e = Edge.of(22, "A WATCH are the fewest FIELDS, so that each SHEEP is behind n DAYS in one of these, or"
                + " in one from which an OPEN GAP leads to one of these; of like ones the least bits.");
        String land = TextEdges.fields(4) + "gap a to d miles 1;gap b to d miles 1;gap c to d miles 1;";
        StrayWool x = Due.land(land + "sheep s at a curious 0;sheep t at b curious 0;sheep u at c curious 0;stays all;");
        e.is("one of more bits, not three of less", x.watch(0), 8);
        x.swing(0, 0);
        e.is("one shut", x.watch(0), 9);
        x.swing(1, 0);
        e.is("two shut: c or d for the third, the least bits", x.watch(0), 1 + 2 + 4);
        x.swing(2, 0);
        e.is("all shut", x.watch(0), 7);
        StrayWool one = Due.land(land + "sheep s at d curious 0;stays all;");
        e.is("the least bits of like ones", one.watch(0), 1);
        one.swing(0, 0);
        e.is("the next", one.watch(0), 2);
        StrayWool twice = Due.land(TextEdges.fields(2) + "gap a to b miles 1;gap b to a miles 1;sheep s at b curious 0;");
        e.is("two gaps between two", twice.watch(0), 1);
        twice.swing(0, 0);
        e.is("one of them shut", twice.watch(0), 1);
        twice.swing(1, 0);
        e.is("both shut", twice.watch(0), 2);
        String sheep = "sheep s at b curious 0;";
        e.is("two from a", Due.land(TextEdges.fields(2) + "gap a to b miles 1;".repeat(2) + sheep).watch(0), 1);
        e.is("two from b", Due.land(TextEdges.fields(2) + "gap b to a miles 1;".repeat(2) + sheep).watch(0), 1);
        StrayWool days = Due.land(AheadEdges.SHUTTLE + "field c lure 1;gap b to c miles 1;shut 0;sheep t at c curious 0;");
        // The first is shut in a, the other one goes to and fro between c and b.
        e.is("behind no day", days.watch(0), 3);
        e.is("behind one day", days.watch(1), 3);
        days.swing(1, 0);
        e.is("c is shut in", days.watch(1), 5);
        days.swing(0, 1);
        days.swing(1, 1);
        e.is("from b", days.watch(0), 2);
        e.is("both in b", days.watch(1), 1);
    }
}
