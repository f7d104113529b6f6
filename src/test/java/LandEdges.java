/** Edges of promises 6 to 14: what there is. */
final class LandEdges {
    private static final int[] BESIDE = {Integer.MIN_VALUE, -1, Integer.MAX_VALUE};

    private LandEdges() {
    }

    static void run() {
        has();
        hasAtItsMost();
        letter();
        lure();
        gap();
        sheep();
        seen();
        strays();
        brings();
        kept();
    }

    /** Eight fields, ten gaps, six sheep; names up to the longest. */
    static String full() {
        StringBuilder text = new StringBuilder();
        for (int i = 0; i < 8; i++) {
            text.append("field f").append((char) ('a' + i)).append(" lure ").append(i + 1).append(";");
        }
        for (int k = 0; k < 10; k++) {
            text.append("gap f").append((char) ('a' + k % 7)).append(" to fh miles ").append(k % 9 + 1).append(";");
        }
        for (int s = 0; s < 6; s++) {
            text.append("sheep sheep").append((char) ('a' + s)).append(" at f").append((char) ('a' + s)).append(" curious ")
                    .append(s + 4).append(";");
        }
        return text.toString();
    }

    private static int[] all(StrayWool x) {
        int[] all = new int[10];
        for (int what = 0; what < 10; what++) {
            all[what] = x.has(what);
        }
        return all;
    }

    private static void has() {
        Edge e = Edge.of(6, "How many there are: 0 FIELDS, 1 GAPS, 2 SHEEP, 3 DAY, 4 OPEN GAPS, 5 the purse, 6 miles"
                + " in all WOOL,"
                + " 7 what is told as KEPT, 8 rows FELT, 9 ACTS that can be undone. NONE for others.");
        StrayWool x = Due.land(full() + "shut 9;shut 0;");
        e.are("at first", all(x), 8, 10, 6, 0, 8, 0, 0, 0, 0, 0);
        // Sheep a is shut in but for gap 7; all go to fh.
        e.is("days", x.days(1), 6);
        e.are("behind a day", all(x), 8, 10, 6, 1, 8, 0, 8 + 2 + 3 + 4 + 5 + 6, 6, 0, 1);
        x.shear(1);
        Due.feel(x, 1, 1, 1, 2, 2, 2, 3, 3, 3);
        x.swing(9, 1);
        e.are("behind more", all(x), 8, 10, 6, 1, 9, 2, 26, 6, 3, 3);
        e.is("has(-1)", x.has(-1), -1);
        e.is("has(10)", x.has(10), -1);
        e.is("has(MIN)", x.has(Integer.MIN_VALUE), -1);
        e.is("has(MAX)", x.has(Integer.MAX_VALUE), -1);
    }

    private static void hasAtItsMost() {
        Edge e = Edge.of(6, "3 DAY, 4 OPEN GAPS, 5 the purse, 6 miles in all WOOL, 7 what is told as KEPT, 8 rows"
                + " FELT, 9 ACTS that can be undone");
        StrayWool x = Due.land(full() + "lures 1;");
        Put.purse(x, 99999);
        Put.allMiles(x, 999, 999, 999, 999, 999, 999);
        for (int n = 0; n < 21; n++) {
            x.days(40);
        }
        Due.feel(x, new int[48]);
        e.are("most", all(x), 8, 10, 6, 840, 10, 99999, 5994, 40, 16, 20);
    }

    private static void letter() {
        Edge e = Edge.of(7, "Letter k (0 .. 5) of the NAME of a FIELD (kind 0), a SHEEP (1): 1 .. 26; 0 behind it;"
                + " NONE when there is none such.");
        StrayWool x = Due.land(full());
        int[] fh = {6, 8, 0, 0, 0, 0};
        int[] sheepf = {19, 8, 5, 5, 16, 6};
        for (int k = 0; k < 6; k++) {
            e.is("field 7, letter " + k, x.letter(0, 7, k), fh[k]);
            e.is("sheep 5, letter " + k, x.letter(1, 5, k), sheepf[k]);
        }
        e.is("field 0, letter 1", x.letter(0, 0, 1), 1);
        e.is("sheep 0, letter 5", x.letter(1, 0, 5), 1);
        e.is("letter 6", x.letter(0, 7, 6), -1);
        e.is("letter 6 of six", x.letter(1, 5, 6), -1);
        e.is("field 8", x.letter(0, 8, 0), -1);
        e.is("sheep 6", x.letter(1, 6, 0), -1);
        e.is("kind 2", x.letter(2, 0, 0), -1);
        for (int n : BESIDE) {
            e.is("letter " + n, x.letter(0, 0, n), -1);
            e.is("field " + n, x.letter(0, n, 0), -1);
            e.is("sheep " + n, x.letter(1, n, 0), -1);
            e.is("kind " + n, x.letter(n, 0, 0), -1);
        }
        StrayWool ends = Due.land("field azazaz lure 1;field zzzzzz lure 1;field a lure 1;");
        for (int k = 0; k < 6; k++) {
            e.is("azazaz " + k, ends.letter(0, 0, k), k % 2 == 0 ? 1 : 26);
            e.is("zzzzzz " + k, ends.letter(0, 1, k), 26);
            e.is("a " + k, ends.letter(0, 2, k), k == 0 ? 1 : 0);
        }
    }

    private static void lure() {
        Edge e = Edge.of(8, "What lures in a FIELD; NONE when there is none such.");
        StrayWool x = Due.land(full());
        for (int f = 0; f < 8; f++) {
            e.is("field " + f, x.lure(f), f + 1);
        }
        e.is("field 8", x.lure(8), -1);
        for (int n : BESIDE) {
            e.is("field " + n, x.lure(n), -1);
        }
        StrayWool one = Due.land("field a lure 0;");
        e.is("the only one", one.lure(0), 0);
        e.is("the next one", one.lure(1), -1);
    }

    private static void gap() {
        Edge e = Edge.of(9, "Of a GAP: 0 the first FIELD told, 1 the other one, 2 miles, 3 whether OPEN. NONE when"
                + " there is none such, or for others.");
        StrayWool x = Due.land(full() + "shut 9;");
        for (int k = 0; k < 10; k++) {
            int[] got = {x.gap(k, -1), x.gap(k, 0), x.gap(k, 1), x.gap(k, 2), x.gap(k, 3), x.gap(k, 4)};
            e.are("gap " + k, got, -1, k % 7, 7, k % 9 + 1, k == 9 ? 0 : 1, -1);
        }
        e.is("gap 10", x.gap(10, 0), -1);
        for (int n : BESIDE) {
            e.is("gap " + n, x.gap(n, 0), -1);
            e.is("what " + n, x.gap(0, n), -1);
        }
        StrayWool back = Due.land("field a lure 1;field b lure 1;gap b to a miles 1;");
        e.are("told from b", new int[] {back.gap(0, 0), back.gap(0, 1)}, 1, 0);
        x.swing(9, 1);
        x.swing(0, 0);
        e.are("opened and shut", new int[] {x.gap(9, 3), x.gap(0, 3)}, 1, 0);
    }

    private static void sheep() {
        Edge e = Edge.of(10, "Of a SHEEP: 0 its FIELD, 1 how curious, 2 miles in its WOOL, 3 CRIMP, 4 whether LED, 5"
                + " its HOME. NONE when there is none such, or for others.");
        StrayWool x = Due.land(full());
        x.lead(5, 5);
        x.lead(0, 7);
        for (int s = 0; s < 6; s++) {
            int[] got = {x.sheep(s, -1), x.sheep(s, 0), x.sheep(s, 1), x.sheep(s, 2), x.sheep(s, 3), x.sheep(s, 4), x.sheep(s, 5),
                x.sheep(s, 6)};
            boolean led = s == 5 || s == 0;
            e.are("sheep " + s, got, -1, led ? 7 : s, s + 4, s == 5 ? 6 : s == 0 ? 8 : 0, s == 5 ? 6 : s == 0 ? 8 : 0, led ? 1 : 0, s, -1);
        }
        e.is("sheep 6", x.sheep(6, 0), -1);
        for (int n : BESIDE) {
            e.is("sheep " + n, x.sheep(n, 0), -1);
            e.is("what " + n, x.sheep(0, n), -1);
        }
    }

    private static void seen() {
        Edge e = Edge.of(11, "How many times a SHEEP has been in a FIELD; NONE when there are none such.");
        StrayWool x = Due.land(full());
        x.lead(5, 5);
        x.lead(5, 5);
        x.tell(0, 7, 99);
        for (int s = 0; s < 6; s++) {
            for (int f = 0; f < 8; f++) {
                int want = s == f ? s == 5 ? 2 : 1 : f < 7 ? 0 : s == 0 ? 99 : s == 5 ? 1 : 0;
                e.is("sheep " + s + ", field " + f, x.seen(s, f), want);
            }
            e.is("field 8", x.seen(s, 8), -1);
        }
        e.is("sheep 6", x.seen(6, 0), -1);
        for (int n : BESIDE) {
            e.is("sheep " + n, x.seen(n, 0), -1);
            e.is("field " + n, x.seen(0, n), -1);
        }
    }

    private static void strays() {
        Edge e = Edge.of(12, "The GAP through which a SHEEP would STRAY in the next DAY; NONE when it would not, or"
                + " there is none such.");
        StrayWool x = Due.land(full());
        int[] want = {0, 1, 2, 3, 4, 5};
        for (int s = 0; s < 6; s++) {
            e.is("sheep " + s, x.strays(s), want[s]);
        }
        e.is("sheep 6", x.strays(6), -1);
        for (int n : BESIDE) {
            e.is("sheep " + n, x.strays(n), -1);
        }
        x.swing(5, 0);
        e.is("without a gap", x.strays(5), -1);
        e.is("nothing has strayed", x.has(6), 0);
        StrayWool last = Due.land("field a lure 1;field b lure 1;" + "gap a to b miles 1;".repeat(9)
                + "gap a to b miles 2;sheep s at a curious 1;lures miles;");
        e.is("the last of ten", last.strays(0), 9);
        e.is("stays", Due.land(full() + "stays curious=9;").strays(5), -1);
        e.is("does not stay", Due.land(full() + "stays curious=9;").strays(4), 4);
        StrayWool late = Due.land(full());
        Put.day(late, 999);
        e.is("day 999: as if one came", late.strays(0), 0);
    }

    private static void brings() {
        Edge e = Edge.of(13, "The SUM of worth of a SHEEP now, cut as told; NONE when there is none such.");
        int[][] rows = {{9998, 9998}, {9999, 9999}};
        for (int[] row : rows) {
            e.is("worth " + row[0], Due.land(full() + "worth " + row[0] + ";").brings(5), row[1]);
        }
        e.is("worth 10000", Due.land(full() + "worth 9999+1;").brings(5), 9999);
        e.is("worth 10 to the 6", Due.land(full() + "worth 1000*1000;").brings(0), 9999);
        e.is("worth 1", Due.land(full() + "worth 1;").brings(5), 1);
        e.is("worth 0", Due.land(full() + "worth 0;").brings(5), 0);
        e.is("worth -1", Due.land(full() + "worth 0-1;").brings(5), 0);
        e.is("worth -10 to the 6", Due.land(full() + "worth 0-1000*1000;").brings(0), 0);
        StrayWool x = Due.land(full());
        e.is("sheep 6", x.brings(6), -1);
        for (int n : BESIDE) {
            e.is("sheep " + n, x.brings(n), -1);
        }
        e.is("nothing is shorn", x.has(5), 0);
    }

    private static void kept() {
        Edge e = Edge.of(14, "Of what is told as KEPT, the k-th from the oldest on: 0 DAY, 1 SHEEP, 2 GAP, 3 miles."
                + " NONE when there is none such, or for others.");
        StrayWool x = Due.land(full());
        e.is("none yet", x.kept(0, 0), -1);
        Put.day(x, 998);
        Put.miles(x, 5, 999);
        Put.miles(x, 4, 994);
        x.days(1);
        int[] miles = {1, 2, 3, 4, 999, 999};
        for (int k = 0; k < 6; k++) {
            int[] got = {x.kept(k, -1), x.kept(k, 0), x.kept(k, 1), x.kept(k, 2), x.kept(k, 3), x.kept(k, 4)};
            e.are("row " + k, got, -1, 998, k, k, miles[k], -1);
        }
        e.is("row 6", x.kept(6, 0), -1);
        for (int n : BESIDE) {
            e.is("row " + n, x.kept(n, 0), -1);
            e.is("what " + n, x.kept(0, n), -1);
        }
        StrayWool ten = Due.land("field a lure 1;field b lure 1;" + "gap a to b miles 1;".repeat(9)
                + "gap a to b miles 2;" + TextEdges.sheep(6, "a") + "lures miles;");
        ten.days(1);
        e.are("the last gap, the last sheep", new int[] {ten.kept(5, 0), ten.kept(5, 1), ten.kept(5, 2), ten.kept(5, 3)}, 0, 5, 9, 2);
    }
}
