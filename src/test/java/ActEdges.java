import java.util.Arrays;

/** Edges of promises 27 to 34: acts. */
final class ActEdges {
    private static final int[] BESIDE = {Integer.MIN_VALUE, -1, Integer.MAX_VALUE};

    private ActEdges() {
    }

    static void run() {
        shear();
        lead();
        swing();
        tell();
        days();
        chance();
        undo();
        undoRestores();
        seed();
        refusedLeavesAll();
    }

    private static void shear() {
        Edge e = Edge.of(27, "A SHEEP is SHORN: what it brings; NONE, refused (2), when its WOOL has 0 miles, or"
                + " there is none such.");
        int[] miles = {0, 1, 2, 998, 999};
        for (int m : miles) {
            StrayWool x = Due.land(LandEdges.full() + "worth wool+1;");
            Put.miles(x, 5, m);
            e.is("shear, " + m + " miles", x.shear(5), m == 0 ? -1 : m + 1);
            e.is("refused, " + m + " miles", x.status(2), m == 0 ? 1 : 0);
            e.is("purse, " + m + " miles", x.has(5), m == 0 ? 0 : m + 1);
            e.is("once more", x.shear(5), -1);
            e.is("the others have none", x.shear(0), -1);
        }
        StrayWool x = Due.land(LandEdges.full());
        Put.allMiles(x, 1, 1, 1, 1, 1, 1);
        e.is("sheep 6", x.shear(6), -1);
        for (int n : BESIDE) {
            e.is("sheep " + n, x.shear(n), -1);
        }
        e.is("refused", x.status(2), 4);
        for (int s = 0; s < 6; s++) {
            e.is("sheep " + s, x.shear(s), 1);
        }
        StrayWool crimped = Due.land(AheadEdges.SHUTTLE);
        Put.crimp(crimped, 0, 5);
        Put.led(crimped, 0, 1);
        e.is("a crimp alone is no wool", crimped.shear(0), -1);
        e.are("all stays", new int[] {crimped.sheep(0, 3), crimped.sheep(0, 4), crimped.has(9)}, 5, 1, 0);
    }

    private static void lead() {
        Edge e = Edge.of(28, "A SHEEP is LED through a GAP: true; false, refused (2), when that does not lead from"
                + " its FIELD, or there are none such.");
        StrayWool x = Due.land(LandEdges.full() + "shut 9;");
        e.is("gap 1 is not at fa", x.lead(0, 1), false);
        e.is("gap 9 is shut", x.lead(2, 9), false);
        e.is("gap 10", x.lead(0, 10), false);
        e.is("sheep 6", x.lead(6, 0), false);
        for (int n : BESIDE) {
            e.is("gap " + n, x.lead(0, n), false);
            e.is("sheep " + n, x.lead(n, 0), false);
        }
        e.is("refused", x.status(2), 10);
        e.are("nothing has been done", new int[] {x.has(9), x.has(6)}, 0, 0);
        e.is("gap 7 of fa", x.lead(0, 7), true);
        e.is("the last sheep", x.lead(5, 5), true);
        x.swing(9, 1);
        e.is("the last gap", x.lead(2, 9), true);
        e.is("back through another", x.lead(0, 0), true);
        e.is("refused no more", x.status(2), 10);
        e.are("led", new int[] {x.sheep(0, 4), x.sheep(1, 4), x.sheep(2, 4), x.sheep(5, 4)}, 1, 0, 1, 1);
    }

    private static void swing() {
        Edge e = Edge.of(29, "A GAP is opened (on 1), or shut (0): true; false, refused (2), when it is so already,"
                + " there is none such, or for others.");
        StrayWool x = Due.land(LandEdges.full());
        for (int k : new int[] {0, 9}) {
            e.is("opened already " + k, x.swing(k, 1), false);
            e.is("shut " + k, x.swing(k, 0), true);
            e.is("it is", x.gap(k, 3), 0);
            e.is("shut already " + k, x.swing(k, 0), false);
            e.is("opened " + k, x.swing(k, 1), true);
            e.is("it is", x.gap(k, 3), 1);
        }
        e.is("refused", x.status(2), 4);
        e.is("gap 10", x.swing(10, 0), false);
        e.is("on 2", x.swing(0, 2), false);
        for (int n : BESIDE) {
            e.is("gap " + n, x.swing(n, 0), false);
            e.is("gap " + n + ", on", x.swing(n, 1), false);
            e.is("on " + n, x.swing(0, n), false);
        }
        e.is("refused", x.status(2), 15);
        e.are("acts, open gaps", new int[] {x.has(9), x.has(4)}, 4, 10);
    }

    private static void tell() {
        Edge e = Edge.of(30, "A SHEEP is told of a FIELD, as if it had been there so many times (0 .. 99): true;"
                + " false, refused (2), when it has, there are none such, or for others.");
        StrayWool x = Due.land(LandEdges.full());
        for (int times : new int[] {1, 98, 99, 0}) {
            e.is("told " + times, x.tell(5, 7, times), true);
            e.is("seen " + times, x.seen(5, 7), times);
            e.is("told " + times + " already", x.tell(5, 7, times), false);
        }
        e.is("refused", x.status(2), 4);
        e.is("100", x.tell(5, 7, 100), false);
        e.is("field 8", x.tell(5, 8, 1), false);
        e.is("sheep 6", x.tell(6, 7, 1), false);
        e.is("its home, once", x.tell(0, 0, 1), false);
        for (int n : BESIDE) {
            e.is("times " + n, x.tell(5, 7, n), false);
            e.is("field " + n, x.tell(5, n, 1), false);
            e.is("sheep " + n, x.tell(n, 7, 1), false);
        }
        e.is("refused", x.status(2), 17);
        e.is("its home, never", x.tell(0, 0, 0), true);
        e.are("it is there all the same", new int[] {x.sheep(0, 0), x.seen(0, 0), x.seen(1, 0), x.has(9)}, 0, 0, 0, 5);
    }

    private static void days() {
        Edge e = Edge.of(31, "n DAYS (1 .. 100): how many times one STRAYS; NONE, refused (3), when it can't be"
                + " (beyond DAY 999).");
        for (int n : new int[] {Integer.MIN_VALUE, -1, 0, 1, 2, 99, 100, 101, Integer.MAX_VALUE}) {
            StrayWool x = Due.land(AheadEdges.SHUTTLE + "sheep t at b curious 0;stays wool>97 and curious=0;");
            boolean due = n >= 1 && n <= 100;
            e.is("days " + n, x.days(n), due ? 2 * Math.min(98, n) : -1);
            e.is("day behind " + n, x.has(3), due ? n : 0);
            e.is("refused " + n, x.status(3), due ? 0 : 1);
            e.is("one act of " + n, x.has(9), due ? 1 : 0);
        }
        for (int n : new int[] {1, 2, 99, 100}) {
            for (int day = 998 - n; day <= 1000 - n; day++) {
                StrayWool x = Due.land(AheadEdges.SHUTTLE);
                Put.day(x, day);
                boolean due = day + n <= 999;
                e.is(n + " days from " + day, x.days(n), due ? n : -1);
                e.is("day", x.has(3), due ? day + n : day);
            }
        }
        e.is("without sheep", new StrayWool().days(100), 0);
        e.is("none strays", Due.land(AheadEdges.SHUTTLE + "stays all;").days(100), 0);
    }

    private static void chance() {
        Edge e = Edge.of(32, "n DAYS by the seed (1 .. 100), one ACT: how many storms; NONE, refused (3), when it"
                + " can't be.");
        for (int n : new int[] {Integer.MIN_VALUE, -1, 0, 1, 2, 99, 100, 101, Integer.MAX_VALUE}) {
            StrayWool x = Due.land(AheadEdges.SHUTTLE + "storm 100;");
            boolean due = n >= 1 && n <= 100;
            e.is("chance " + n, x.chance(n), due ? n : -1);
            e.is("day behind " + n, x.has(3), due ? n : 0);
            e.is("refused " + n, x.status(3), due ? 0 : 1);
            e.is("one act of " + n, x.has(9), due ? 1 : 0);
            e.is("the gap behind " + n, x.gap(0, 3), due ? 1 - n % 2 : 1);
        }
        for (int n : new int[] {1, 2, 99, 100}) {
            for (int day = 998 - n; day <= 1000 - n; day++) {
                StrayWool x = Due.land(AheadEdges.SHUTTLE + "storm 100;");
                Put.day(x, day);
                boolean due = day + n <= 999;
                e.is(n + " days from " + day, x.chance(n), due ? n : -1);
                e.is("day", x.has(3), due ? day + n : day);
            }
        }
        StrayWool refused = Due.land(AheadEdges.SHUTTLE + "storm 19;");
        refused.chance(0);
        refused.chance(101);
        // Seed 1 draws 18 first.
        e.is("what is refused draws nothing", refused.chance(1), 1);
        StrayWool days = Due.land(AheadEdges.SHUTTLE + "storm 19;");
        days.days(50);
        e.is("days draw nothing", days.chance(1), 1);
    }

    private static void undo() {
        Edge e = Edge.of(33, "The latest ACT is undone (the seed stays): true; false, refused (4), when none can be.");
        StrayWool x = Due.land(AheadEdges.SHUTTLE + "storm 19;");
        e.is("none yet", x.undo(), false);
        e.is("refused", x.status(4), 1);
        e.is("18 is below 19", x.chance(1), 1);
        e.is("undo", x.undo(), true);
        e.are("undone", new int[] {x.gap(0, 3), x.has(3), x.has(9)}, 1, 0, 0);
        e.is("the seed stays: 26 is next", x.chance(1), 0);
        e.is("undo", x.undo(), true);
        e.is("no more", x.undo(), false);
        e.is("refused", x.status(4), 2);
        x.days(1);
        Due.on(x, Due.image(x));
        e.is("none behind an image", x.undo(), false);
        x.days(1);
        Due.upland(x, AheadEdges.SHUTTLE);
        e.is("none behind an upland", x.undo(), false);
        x.days(1);
        x.days(2);
        e.is("the latest alone", x.undo(), true);
        e.is("day", x.has(3), 1);
        x.tell(0, 0, 50);
        e.is("acts behind it", x.has(9), 2);
        x.undo();
        x.undo();
        e.are("as at first", new int[] {x.has(3), x.seen(0, 0), x.has(7)}, 0, 1, 0);
    }

    /** All that an act can change, by images and by what is kept. */
    private static void undoRestores() {
        Edge e = Edge.of(33, "The latest ACT is undone");
        StrayWool x = Due.land(LandEdges.full() + "storm 100;worth wool*7;");
        x.days(7);
        byte[][] images = new byte[6][];
        int[] kept = new int[6];
        for (int act = 0; act < 6; act++) {
            images[act] = Due.image(x);
            kept[act] = x.has(7) * 1000 + x.kept(0, 0) * 10 + x.kept(0, 1);
            switch (act) {
                case 0 -> e.is("shear", x.shear(5) > 0, true);
                case 1 -> e.is("swing", x.swing(9, 0), true);
                case 2 -> e.is("tell", x.tell(5, 7, 88), true);
                case 3 -> e.is("days", x.days(3) > 0, true);
                case 4 -> e.is("chance", x.chance(3), 3);
                default -> e.is("lead", leadAny(x), true);
            }
            e.is("it has changed", Arrays.equals(images[act], Due.image(x)), false);
            x.undo();
            e.is("undone " + act, Arrays.equals(images[act], Due.image(x)), true);
            e.is("kept " + act, x.has(7) * 1000 + x.kept(0, 0) * 10 + x.kept(0, 1), kept[act]);
        }
    }

    private static boolean leadAny(StrayWool x) {
        for (int k = 0; k < 10; k++) {
            if (x.lead(5, k)) {
                return true;
            }
        }
        return false;
    }

    private static void seed() {
        Edge e = Edge.of(34, "The seed: true; false, refused (5), when it is below 0. (It is 1 at first.)");
        StrayWool x = Due.land(AheadEdges.SHUTTLE + "storm 19;");
        int[] seeds = {Integer.MIN_VALUE, -2, -1, 0, 1, 2, Integer.MAX_VALUE - 1, Integer.MAX_VALUE};
        int refused = 0;
        for (int s : seeds) {
            refused += s < 0 ? 1 : 0;
            e.is("seed " + s, x.seed(s), s >= 0);
            e.is("refused " + s, x.status(5), refused);
        }
        e.is("no act", x.has(9), 0);
        // The first draws of seeds 1, 0, 2: 18, 92, 12.
        StrayWool one = Due.land(AheadEdges.SHUTTLE + "storm 19;");
        one.seed(-1);
        e.is("1 at first, which what is refused leaves", one.chance(1), 1);
        StrayWool not = Due.land(AheadEdges.SHUTTLE + "storm 18;");
        e.is("18 is not below 18", not.chance(1), 0);
        not.seed(2);
        e.is("12 is below 18", not.chance(1), 1);
        not.seed(0);
        e.is("92 is not", not.chance(1), 0);
        not.seed(2);
        not.undo();
        e.is("undo leaves it", not.chance(1), 1);
    }

    private static void refusedLeavesAll() {
        Edge e = Edge.of(39, "2 shear(), lead(), swing(), tell(); 3 days(), chance(); 4 undo(); 5 seed(), on()");
        StrayWool x = Due.land(LandEdges.full() + "shut 9;");
        byte[] before = Due.image(x);
        x.shear(0);
        x.lead(2, 9);
        x.swing(9, 0);
        x.tell(0, 0, 1);
        x.days(101);
        x.chance(101);
        x.undo();
        x.seed(-1);
        x.on();
        e.is("all is as it was", Arrays.equals(before, Due.image(x)), true);
        e.are("counts", new int[] {x.status(2), x.status(3), x.status(4), x.status(5), x.has(7), x.has(9)}, 4, 2, 1, 2, 0, 0);
    }
}
