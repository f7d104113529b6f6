/** Promises 2, 3, 39: the tape, and what is counted as refused. */
public final class TapeTest {
    public static void main(String[] args) {
        feeding();
        ending();
        order();
        bytesBehindTheEnd();
        statusCounts();
        Due.close("TapeTest");
    }

    private static void feeding() {
        StrayWool x = new StrayWool();
        for (int n = 1; n <= 80; n++) {
            Due.is("feed " + n, x.feed(-1, 0, 1, Integer.MIN_VALUE, Integer.MAX_VALUE), 20 * n);
        }
        Due.is("feed above 1600", x.feed(0, 0, 0, 0, 0), -1);
        Due.is("refused feeds", x.status(0), 1);
        Due.is("end(1580)", x.end(1580), true);
        Due.is("feed to 1600 again", x.feed(0, 0, 0, 0, 0), 1600);
        Due.is("end(1581)", x.end(1581), true);
        Due.is("feed to 1601", x.feed(0, 0, 0, 0, 0), -1);
        Due.is("all of the tape is read", x.upland(), -1);
        Due.is("the tape goes", x.feed(0, 0, 0, 0, 0), 20);
    }

    private static void ending() {
        StrayWool x = new StrayWool();
        Due.is("end(1) of nothing", x.end(1), false);
        Due.is("end(0) of nothing", x.end(0), true);
        x.feed(0, 0, 0, 0, 0);
        Due.is("end(21)", x.end(21), false);
        Due.is("end(-1)", x.end(-1), false);
        Due.is("end(MIN)", x.end(Integer.MIN_VALUE), false);
        Due.is("end(20)", x.end(20), true);
        Due.is("end(3)", x.end(3), true);
        Due.is("end(4) behind end(3)", x.end(4), false);
        Due.is("feed behind three", x.feed(0, 0, 0, 0, 0), 23);
        Due.is("refused ends", x.status(0), 5);
    }

    /** The highest byte of each number comes first, and bytes come behind those that are there. */
    private static void order() {
        StrayWool x = new StrayWool();
        x.feed(0x66696c6c, 0, 0, 0, 0);
        x.end(3);
        x.feed(0x656c6420, 0x61206c75, 0x72652037, 0x3b202020, 0x20202020);
        x.end(16);
        Due.is("fil + eld a", x.upland(), -1);
        x.feed(0x66696520, 0, 0, 0, 0);
        x.end(3);
        x.feed(0x6c642061, 0x206c7572, 0x6520373b, 0x20202020, 0x20202020);
        x.end(15);
        Due.is("fie + ld a lure 7;", x.upland(), 1);
        Due.is("lure", x.lure(0), 7);
    }

    /** What end() takes from the tape is not read, though it would go on well. */
    private static void bytesBehindTheEnd() {
        String text = "field abc lure 15;";
        int[][] due = {{3, 1, 0}, {5, 1, 5}, {8, 1, 8}, {9, 1, 9}, {13, 1, 10}, {14, 1, 14}, {16, 1, 16}, {17, 2, 15}};
        for (int[] row : due) {
            StrayWool x = new StrayWool();
            Due.tape(x, Due.bytes(text));
            x.end(row[0]);
            Due.is("upland() of " + row[0], x.upland(), -1);
            Due.is("fault(0) of " + row[0], x.fault(0), row[1]);
            Due.is("fault(1) of " + row[0], x.fault(1), row[2]);
        }
    }

    private static void statusCounts() {
        StrayWool x = new StrayWool();
        x.end(-1);
        Due.upland(x, "x");
        x.feel();
        x.shear(0);
        x.lead(0, 0);
        x.swing(0, 0);
        x.tell(0, 0, 0);
        x.days(0);
        x.chance(0);
        x.chance(101);
        x.undo();
        x.seed(-1);
        x.on();
        int[] want = {1, 2, 4, 3, 1, 2};
        for (int what = 0; what < 6; what++) {
            Due.is("status " + what, x.status(what), want[what]);
        }
        Due.is("status(6)", x.status(6), -1);
        Due.is("status(-1)", x.status(-1), -1);
        Due.ask(x, "what");
        Due.upland(x, "");
        Due.is("a question is never refused, an upland leaves the counts", x.status(1), 2);
    }
}
