/** Promises 27 to 34: acts, storms, and what is undone. */
public final class ActsTest {
    public static void main(String[] args) {
        shear();
        purse();
        lead();
        swing();
        tell();
        chance();
        drawnInOrder();
        undo();
        undoAll();
        seed();
        Due.close("ActsTest");
    }

    private static void shear() {
        StrayWool x = Due.land(Lands.HILLS + "worth wool*10+led*1000+crimp;");
        Due.is("no wool", x.shear(0), -1);
        Due.is("sheep 2", x.shear(2), -1);
        Due.is("sheep -1", x.shear(-1), -1);
        Due.is("refused", x.status(2), 3);
        Due.is("no act", x.has(9), 0);
        x.days(3);
        x.lead(0, 1);
        Due.is("brings", x.brings(0), 1221);
        Due.is("shear", x.shear(0), 1221);
        Due.is("purse", x.has(5), 1221);
        Due.is("miles", x.sheep(0, 2), 0);
        Due.is("crimp", x.sheep(0, 3), 0);
        Due.is("led", x.sheep(0, 4), 0);
        Due.is("field", x.sheep(0, 0), 2);
        Due.is("times", x.seen(0, 1), 2);
        Due.is("again", x.shear(0), -1);
        Due.is("the other", x.shear(1), 162);
        Due.is("purse of both", x.has(5), 1383);
        StrayWool less = Due.land(Lands.HILLS + "worth 0-wool;");
        less.days(1);
        Due.is("below 0", less.shear(0), 0);
        Due.is("is shorn all the same", less.sheep(0, 2), 0);
    }

    private static void purse() {
        StrayWool x = Due.land(Lands.HILLS + "worth 9999;");
        for (int n = 1; n <= 11; n++) {
            x.days(1);
            Due.is("shear", x.shear(0), 9999);
            Due.is("purse", x.has(5), Math.min(99999, 9999 * n));
        }
    }

    private static void lead() {
        StrayWool x = Due.land(Lands.HILLS + "shut 2;");
        Due.is("not from its field", x.lead(0, 1), false);
        Due.is("shut", x.lead(0, 2), false);
        Due.is("gap 3", x.lead(0, 3), false);
        Due.is("gap -1", x.lead(0, -1), false);
        Due.is("sheep 2", x.lead(2, 0), false);
        Due.is("sheep -1", x.lead(-1, 0), false);
        Due.is("refused", x.status(2), 6);
        Due.is("lead", x.lead(0, 0), true);
        int[] want = {1, 6, 4, 1, 1, 0};
        for (int what = 0; what < 6; what++) {
            Due.is("sheep " + what, x.sheep(0, what), want[what]);
        }
        Due.is("seen", x.seen(0, 1), 1);
        Due.is("not kept", x.has(7), 0);
        Due.is("no day", x.has(3), 0);
        x.days(1);
        Due.is("led until it is shorn", x.sheep(0, 4), 1);
    }

    private static void swing() {
        StrayWool x = Due.land(Lands.HILLS + "shut 1;");
        Due.is("open already", x.swing(0, 1), false);
        Due.is("shut already", x.swing(1, 0), false);
        Due.is("on 2", x.swing(0, 2), false);
        Due.is("on -1", x.swing(0, -1), false);
        Due.is("gap 3", x.swing(3, 0), false);
        Due.is("gap -1", x.swing(-1, 0), false);
        Due.is("refused", x.status(2), 6);
        Due.is("open", x.swing(1, 1), true);
        Due.is("is open", x.gap(1, 3), 1);
        Due.is("shut", x.swing(0, 0), true);
        Due.is("is shut", x.gap(0, 3), 0);
        Due.is("open gaps", x.has(4), 2);
    }

    private static void tell() {
        StrayWool x = Due.land(Lands.HILLS);
        Due.is("so already", x.tell(0, 0, 1), false);
        Due.is("times 100", x.tell(0, 0, 100), false);
        Due.is("times -1", x.tell(0, 0, -1), false);
        Due.is("field 3", x.tell(0, 3, 1), false);
        Due.is("field -1", x.tell(0, -1, 1), false);
        Due.is("sheep 2", x.tell(2, 0, 1), false);
        Due.is("refused", x.status(2), 6);
        Due.is("none", x.tell(0, 0, 0), true);
        Due.is("seen", x.seen(0, 0), 0);
        Due.is("99", x.tell(0, 1, 99), true);
        Due.is("the other one's are its own", x.seen(1, 1), 0);
        Due.is("lured elsewhere", x.strays(0), 2);
        x.lead(0, 0);
        Due.is("99 at most", x.seen(0, 1), 99);
    }

    /** From seed 1 on the generator gives 1103527590, 377401575, 662824084, 1147902781, 2035015474, 368800899. */
    private static void chance() {
        Due.is("18 is not below 18", Due.land(Lands.HILLS + "storm 18;").chance(1), 0);
        StrayWool x = Due.land(Lands.HILLS + "storm 19;");
        Due.is("18 is below 19", x.chance(1), 1);
        Due.is("gap 0 is shut", x.gap(0, 3), 0);
        Due.is("ahead of the day", x.sheep(0, 0), 2);
        Due.is("day", x.has(3), 1);
        Due.is("one act", x.has(9), 1);
        Due.is("kept", x.has(7), 2);
        StrayWool every = Due.land(Lands.HILLS + "storm 100;");
        Due.is("every day", every.chance(2), 2);
        Due.is("opened again", every.gap(0, 3), 1);
        StrayWool none = Due.land(Lands.HILLS);
        Due.is("without storm", none.chance(100), 0);
        Due.is("without gaps", Due.land("field a lure 1;sheep s at a curious 1;storm 100;").chance(5), 0);
        Due.is("0", none.chance(0), -1);
        Due.is("-1", none.chance(-1), -1);
        Due.is("101", none.chance(101), -1);
        Due.is("refused", none.status(3), 3);
    }

    /** Each day draws once, a storm once more. */
    private static void drawnInOrder() {
        StrayWool x = Due.land(Lands.HILLS + "storm 17;");
        Due.is("18, 99, 26, 80", x.chance(4), 0);
        Due.is("16", x.chance(1), 1);
        Due.is("gap 0", x.gap(0, 3), 0);
        StrayWool plain = Due.land(Lands.HILLS + "storm 17;");
        plain.days(4);
        plain.chance(0);
        Due.is("days don't draw", plain.chance(4), 0);
    }

    private static void undo() {
        StrayWool x = Due.land(Lands.HILLS + "storm 19;");
        Due.is("nothing yet", x.undo(), false);
        Due.is("refused", x.status(4), 1);
        byte[] first = Due.image(x);
        x.chance(1);
        Due.is("undo", x.undo(), true);
        byte[] again = Due.image(x);
        for (int k = 0; k < first.length; k++) {
            Due.is("octet " + k, again[k], first[k]);
        }
        Due.is("nothing kept", x.has(7), 0);
        // The seed stays: the next draws are 662824084's 26 and so on.
        Due.is("the seed stays", x.chance(1), 0);
        Due.is("undo", x.undo(), true);
        Due.is("no more", x.undo(), false);
        x.shear(0);
        Due.is("what is refused is no act", x.has(9), 0);
    }

    private static void undoAll() {
        StrayWool x = Due.land(Lands.HILLS);
        for (int n = 0; n < 25; n++) {
            x.days(1);
            Due.is("acts", x.has(9), Math.min(20, n + 1));
        }
        for (int n = 0; n < 20; n++) {
            Due.is("undo", x.undo(), true);
            Due.is("day", x.has(3), 24 - n);
        }
        Due.is("no more than 20", x.undo(), false);
        Due.is("fields", x.sheep(0, 0), 1);
        Due.is("kept", x.has(7), 10);
        x.days(1);
        x.lead(0, 0);
        x.swing(0, 0);
        x.tell(0, 0, 77);
        x.shear(0);
        for (int n = 0; n < 5; n++) {
            x.undo();
        }
        Due.is("all kinds: acts", x.has(9), 0);
        Due.is("all kinds: day", x.has(3), 5);
        Due.is("all kinds: gap", x.gap(0, 3), 1);
        Due.is("all kinds: times", x.seen(0, 0), 3);
        Due.is("all kinds: miles", x.sheep(0, 2), 20);
        Due.is("all kinds: purse", x.has(5), 0);
        Due.is("all kinds: led", x.sheep(0, 4), 0);
        x.days(1);
        Due.upland(x, Lands.HILLS);
        Due.is("an upland can't be undone", x.undo(), false);
    }

    private static void seed() {
        StrayWool x = Due.land(Lands.HILLS + "storm 19;");
        Due.is("-1", x.seed(-1), false);
        Due.is("MIN", x.seed(Integer.MIN_VALUE), false);
        Due.is("refused", x.status(5), 2);
        Due.is("what is refused leaves it", x.chance(1), 1);
        Due.is("1", x.seed(1), true);
        Due.is("as at first", x.chance(1), 1);
        Due.is("no act", x.has(9), 2);
        Due.is("0", x.seed(0), true);
        // 12345, floor by 64 is 192, 92 by 100.
        Due.is("92", x.chance(1), 0);
        Due.is("MAX", x.seed(Integer.MAX_VALUE), true);
        // 2147483647 becomes 1043980748, floor by 64 is 16312199, 99 by 100.
        Due.is("99", x.chance(1), 0);
        x.seed(1);
        Due.upland(x, Lands.HILLS + "storm 19;");
        Due.is("an upland leaves the seed", x.chance(1), 1);
    }
}
