/** Edges of promises 24 to 26: what is felt, how curious one can be, what tells most. */
final class CuriousEdges {
    /** A sheep strays once, on a day, if it is curious enough. */
    private static final String ONCE = "field a lure 1;field b lure 1;gap a to b miles 1;sheep s at a curious 7;sheep t at a curious 2;";
    private static final int ALL = 1023;
    private static final int[] BESIDE = {Integer.MIN_VALUE, -1, Integer.MAX_VALUE};

    private CuriousEdges() {
    }

    static void run() {
        feel();
        feelRows();
        staying();
        curious();
        beyond();
        tells();
        tellsWhen();
        tellsNone();
    }

    /** Those above a number stray on a day, as if for the first time. */
    private static String above(int number, int day) {
        return ONCE + "lures max(0,curious-" + number + ")*(1-seen);stays not day=" + day + ";";
    }

    private static void feel() {
        Edge e = Edge.of(24, "FELT are rows of DAYS AHEAD (0 .. 30), a SHEEP, its CRIMP behind these (0 .. 63)");
        StrayWool x = Due.land(ONCE);
        int[][] good = {{0, 0, 0}, {30, 0, 0}, {0, 1, 0}, {0, 0, 63}, {30, 1, 63}};
        for (int[] row : good) {
            e.is(row[0] + " " + row[1] + " " + row[2], Due.feel(x, row), 1);
        }
        int[][] wrong = {{31, 0, 0}, {127, 0, 0}, {128, 0, 0}, {255, 0, 0}, {0, 2, 0}, {0, 255, 0}, {0, 0, 64}, {0, 0, 127}, {0, 0, 128},
            {0, 0, 255}};
        for (int[] row : wrong) {
            e.is(row[0] + " " + row[1] + " " + row[2], Due.feel(x, row), -1);
        }
        e.is("refused", x.status(1), wrong.length);
        StrayWool six = Due.land(LandEdges.full());
        e.is("sheep 5", Due.feel(six, 1, 5, 1), 1);
        e.is("sheep 6", Due.feel(six, 1, 6, 1), -1);
        StrayWool one = Due.land(AheadEdges.SHUTTLE);
        e.is("sheep 0 of one", Due.feel(one, 1, 0, 1), 1);
        e.is("sheep 1 of one", Due.feel(one, 1, 1, 1), -1);
        e.is("without sheep", Due.feel(new StrayWool(), 0, 0, 0), -1);
    }

    private static void feelRows() {
        Edge e = Edge.of(24, "The tape (it goes) tells what is FELT, 1 to 16 rows of three bytes: how many rows;"
                + " NONE, refused (1), all staying, when it is none such.");
        for (int bytes = 0; bytes <= 52; bytes++) {
            StrayWool x = Due.land(ONCE);
            boolean due = bytes > 0 && bytes <= 48 && bytes % 3 == 0;
            e.is(bytes + " bytes", Due.feel(x, new int[bytes]), due ? bytes / 3 : -1);
            e.is("felt by " + bytes, x.has(8), due ? bytes / 3 : 0);
            e.is("refused by " + bytes, x.status(1), due ? 0 : 1);
            e.is("the tape goes, " + bytes, x.end(1), false);
        }
        StrayWool x = Due.land(ONCE);
        e.is("1600 bytes", Due.feel(x, new int[1600]), -1);
        e.is("1599 bytes", Due.feel(x, new int[1599]), -1);
    }

    private static void staying() {
        Edge e = Edge.of(24, "NONE, refused (1), all staying, when it is none such");
        StrayWool x = Due.land(above(4, 0));
        Due.feel(x, 1, 0, 1, 0, 0, 0);
        e.is("those above 4", x.curious(0), ALL & ~31);
        e.is("a wrong last row", Due.feel(x, 1, 0, 0, 1, 0, 0, 1, 0, 64), -1);
        e.is("a wrong first row", Due.feel(x, 31, 0, 0, 1, 0, 0), -1);
        e.is("rows stay", x.has(8), 2);
        e.is("what they tell stays", x.curious(0), ALL & ~31);
        e.is("a new row takes their place", Due.feel(x, 1, 0, 0), 1);
        e.is("what it tells", x.curious(0), 31);
        Due.feel(x, 1, 0, 0, 1, 0, 1);
        e.is("two that don't agree", x.curious(0), 0);
        Due.feel(x, 1, 0, 0);
        e.is("the first of them alone", x.curious(0), 31);
        int[] rows = new int[48];
        rows[45] = 1;
        rows[47] = 1;
        Due.feel(x, rows);
        e.is("the 16th row counts", x.curious(0), ALL & ~31);
        Due.upland(x, above(4, 0));
        e.is("none is left of them", x.curious(0), ALL);
    }

    private static void curious() {
        Edge e = Edge.of(25, "CURIOUS of a SHEEP by what is FELT (all, if nothing is; DAYS beyond 999 are by none),"
                + " as bits. NONE when there is none such.");
        StrayWool x = Due.land(above(4, 0));
        e.is("nothing felt", x.curious(0), ALL);
        e.is("sheep 2", x.curious(2), -1);
        for (int n : BESIDE) {
            e.is("sheep " + n, x.curious(n), -1);
        }
        Edge numbers = Edge.of(25, "CURIOUS are numbers (0 .. 9) that a told SHEEP can have now, so that all is so.");
        for (int number = 0; number <= 9; number++) {
            StrayWool y = Due.land(above(number, 0));
            Due.feel(y, 1, 0, 1);
            int bits = ALL & ~((2 << number) - 1);
            numbers.is("those above " + number, y.curious(0), bits);
            numbers.is("for the other one, s strays if 7 is above " + number, y.curious(1), number < 7 ? ALL : 0);
            Due.feel(y, 1, 0, 0);
            numbers.is("those not above " + number, y.curious(0), ALL & ~bits);
            Due.feel(y, 0, 0, 0, 1, 0, 1);
            numbers.is("behind no day, too", y.curious(0), bits);
            Due.feel(y, 0, 0, 1, 1, 0, 1);
            numbers.is("not so behind no day", y.curious(0), 0);
            Due.feel(y, 1, 0, 1, 1, 1, number < 2 ? 1 : 0);
            numbers.is("what the other one has is so", y.curious(0), bits);
            Due.feel(y, 1, 0, 1, 1, 1, number < 2 ? 0 : 1);
            numbers.is("what the other one has is not so", y.curious(0), 0);
        }
        StrayWool least = Due.land(ONCE + "lures max(0,5-curious)*(1-seen);");
        Due.feel(least, 1, 0, 1);
        numbers.is("those below 5", least.curious(0), 31);
        least.lead(0, 0);
        Due.feel(least, 0, 0, 1);
        numbers.is("the crimp that it has now", least.curious(0), ALL);
        Due.feel(least, 0, 0, 0);
        numbers.is("one that it had", least.curious(0), 0);
        StrayWool late = Due.land(above(4, 29));
        Due.feel(late, 30, 0, 1);
        numbers.is("behind 30 days", late.curious(0), ALL & ~31);
        Due.feel(late, 29, 0, 1);
        numbers.is("not behind 29 days", late.curious(0), 0);
        late.days(1);
        numbers.is("from now on behind 29", late.curious(0), ALL & ~31);
    }

    private static void beyond() {
        Edge e = Edge.of(25, "DAYS beyond 999 are by none");
        for (int n : new int[] {0, 1, 29, 30}) {
            for (int day = 998 - n; day <= 1000 - n && day <= 999; day++) {
                StrayWool x = Due.land(ONCE + "stays all;");
                Put.day(x, day);
                Due.feel(x, n, 0, 0);
                int due = day + n <= 999 ? ALL : 0;
                e.is(n + " days behind day " + day, x.curious(0), due);
                e.is(n + " days behind day " + day + ", the other one", x.curious(1), due);
                Due.feel(x, 0, 1, 0, n, 1, 0);
                e.is(n + " days behind day " + day + ", by another", x.curious(0), due);
            }
        }
    }

    private static void tells(Edge e, String what, StrayWool x, int sheep, int... want) {
        e.are(what, new int[] {x.tells(sheep, 0), x.tells(sheep, 1), x.tells(sheep, 2)}, want);
    }

    private static void tells() {
        Edge e = Edge.of(26, "TELLING is the number of DAYS AHEAD (1 .. 30), the SHEEP, by whose CRIMP then, whatever"
                + " it is, the most of these left are fewest; of like ones the first, DAY by DAY, SHEEP by SHEEP.");
        for (int number = 0; number <= 9; number++) {
            // Those above are 9 - number, the others one more than number.
            int left = Math.max(9 - number, number + 1);
            StrayWool x = Due.land(above(number, 3));
            tells(e, "above " + number, x, 0, number == 9 ? 1 : 4, 0, left);
            tells(e, "above " + number + ", the second", x, 1, number == 9 ? 1 : 4, number == 9 ? 0 : 1, left);
        }
        tells(e, "the first day", Due.land(above(4, 0)), 0, 1, 0, 5);
        tells(e, "the 29th day", Due.land(above(4, 28)), 0, 29, 0, 5);
        tells(e, "the 30th day", Due.land(above(4, 29)), 0, 30, 0, 5);
        tells(e, "the 31st day is not asked", Due.land(above(4, 30)), 0, 1, 0, 10);
        StrayWool x = Due.land(above(4, 29));
        x.days(1);
        tells(e, "from now on", x, 0, 29, 0, 5);
        Due.feel(x, 29, 0, 1);
        tells(e, "what is left can't be parted", x, 0, 1, 0, 5);
        StrayWool one = Due.land(above(8, 0));
        Due.feel(one, 1, 0, 1);
        tells(e, "one left", one, 0, 1, 0, 1);
        StrayWool nought = Due.land(above(0, 0));
        Due.feel(nought, 1, 0, 0);
        tells(e, "0 alone is left", nought, 0, 1, 0, 1);
        StrayWool later = Due.land(ONCE + "lures max(0,curious-day*3)*(1-seen);");
        // On day 0 all but 0 stray; who strayed is in b, and b has been seen: none strays again.
        tells(e, "the first of like ones", later, 0, 1, 0, 9);
    }

    private static void tellsWhen() {
        Edge e = Edge.of(26, "TELLING for a SHEEP: the number of DAYS AHEAD (what 0), the SHEEP (1), how many are"
                + " left at the most (2).");
        StrayWool x = Due.land(above(4, 0));
        e.are("what", new int[] {x.tells(1, -1), x.tells(1, 0), x.tells(1, 1), x.tells(1, 2), x.tells(1, 3)}, -1, 1, 1, 5, -1);
        for (int day = 967; day <= 999; day++) {
            StrayWool late = Due.land(above(4, 998));
            Put.day(late, day);
            int n = 999 - day;
            boolean told = n >= 1 && n <= 30;
            tells(e, "day " + day, late, 0, day == 999 ? -1 : told ? n : 1, day == 999 ? -1 : 0, day == 999 ? -1 : told ? 5 : 10);
        }
    }

    private static void tellsNone() {
        Edge e = Edge.of(26, "NONE without any, when no DAY comes, there is none such, or for others.");
        StrayWool x = Due.land(above(4, 0));
        Due.feel(x, 1, 0, 2);
        tells(e, "without any", x, 0, -1, -1, -1);
        StrayWool late = Due.land(above(4, 0));
        Put.day(late, 998);
        tells(e, "one day comes", late, 0, 1, 0, 10);
        Put.day(late, 999);
        tells(e, "no day comes", late, 0, -1, -1, -1);
        tells(e, "sheep 2", late, 2, -1, -1, -1);
        StrayWool y = Due.land(above(4, 0));
        tells(e, "sheep 1", y, 1, 1, 1, 5);
        tells(e, "sheep 2", y, 2, -1, -1, -1);
        for (int n : BESIDE) {
            tells(e, "sheep " + n, y, n, -1, -1, -1);
            e.is("what " + n, y.tells(0, n), -1);
        }
    }
}
