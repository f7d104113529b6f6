import java.util.Arrays;

/** Promises 36 to 38: images. */
public final class ImageTest {
    public static void main(String[] args) {
        written();
        readBack();
        refused();
        edges();
        Due.close("ImageTest");
    }

    private static void written() {
        StrayWool x = Due.land(Lands.HILLS + "shut 2;");
        Due.is("none yet", x.octet(0), -1);
        x.lead(0, 0);
        x.swing(1, 0);
        int[] want = {0, 0, 0, 0, 0, 1, 0, 0, 1, 0, 4, 1, 1, 1, 1, 0, 2, 0, 0, 0, 0, 0, 0, 1, 0};
        byte[] sealed = Due.sealed(Due.bytes(want));
        Due.is("image()", x.image(), 25);
        for (int k = 0; k < 25; k++) {
            Due.is("octet " + k, x.octet(k), sealed[k] & 255);
        }
        Due.is("octet 25", x.octet(25), -1);
        Due.is("octet -1", x.octet(-1), -1);
        x.days(5);
        Due.is("the latest image stays", x.octet(1), 0);
        Due.upland(x, "");
        Due.is("an upland leaves it", x.octet(10), 4);
        x.image();
        Due.is("a smaller one", x.octet(6), -1);
        Due.is("its last byte", x.octet(5), 192);
    }

    private static void readBack() {
        StrayWool x = Due.land(Lands.HILLS + "worth 9999;");
        for (int n = 0; n < 8; n++) {
            x.days(70);
            x.shear(1);
        }
        x.lead(0, x.gap(0, 0) == x.sheep(0, 0) || x.gap(0, 1) == x.sheep(0, 0) ? 0 : 1);
        x.swing(1, 0);
        byte[] image = Due.image(x);
        Due.feel(x, 1, 0, 1);
        StrayWool y = Due.land(Lands.HILLS + "worth 9999;");
        y.days(3);
        Due.is("on()", Due.on(y, image), true);
        Due.is("as told", Arrays.equals(Due.image(y), image), true);
        Due.is("day", y.has(3), 560);
        Due.is("purse", y.has(5), x.has(5));
        Due.is("nothing kept", y.has(7), 0);
        Due.is("nothing to be undone", y.has(9), 0);
        Due.is("undo", y.undo(), false);
        Due.is("goes on alike", y.days(9), x.days(9));
        Due.is("and is alike", Arrays.equals(Due.image(y), Due.image(x)), true);
        Due.is("how curious is the upland's", y.sheep(0, 1), 6);
        Due.is("the tape goes", y.end(1), false);
    }

    private static void refusedOn(StrayWool x, String why, byte[] image) {
        byte[] before = Due.image(x);
        int refused = x.status(5);
        Due.is("on() " + why, Due.on(x, image), false);
        Due.is("refused " + why, x.status(5), refused + 1);
        Due.is("all stays " + why, Arrays.equals(Due.image(x), before), true);
        Due.is("kept " + why, x.has(7), 2);
        Due.is("acts " + why, x.has(9), 1);
        Due.is("the tape goes " + why, x.end(1), false);
    }

    private static void refused() {
        StrayWool x = Due.land(Lands.HILLS);
        x.days(1);
        byte[] image = Due.image(x);
        refusedOn(x, "of nothing", new byte[0]);
        refusedOn(x, "too short", Due.sealed(Arrays.copyOf(image, image.length - 1)));
        refusedOn(x, "too long", Due.sealed(Arrays.copyOf(image, image.length + 1)));
        for (int k = 0; k < image.length; k++) {
            byte[] other = image.clone();
            other[k] ^= 1;
            refusedOn(x, "with another byte " + k, other);
        }
        // Day 1000, purse 100000, a gap 2, ewe's field 3, miles 1000, crimp 64, led 2, times 100.
        int[][] above = {{0, 3, 1, 232}, {2, 1, 3, 134, 4, 160}, {5, 2}, {7, 2}, {8, 3}, {9, 3, 10, 232}, {11, 64},
            {12, 2}, {13, 100}, {15, 255}, {16, 3}, {23, 100}};
        for (int[] row : above) {
            byte[] other = image.clone();
            for (int i = 0; i < row.length; i += 2) {
                other[row[i]] = (byte) row[i + 1];
            }
            refusedOn(x, "with byte " + row[0] + " above", Due.sealed(other));
        }
    }

    /** All as great as it may be. */
    private static void edges() {
        StrayWool x = Due.land(Lands.HILLS);
        int[] most = {3, 231, 1, 134, 159, 1, 1, 1, 2, 3, 231, 63, 1, 99, 99, 99, 2, 3, 231, 63, 1, 99, 99, 99, 0};
        Due.is("on()", Due.on(x, Due.sealed(Due.bytes(most))), true);
        Due.is("day", x.has(3), 999);
        Due.is("purse", x.has(5), 99999);
        Due.is("miles", x.sheep(1, 2), 999);
        Due.is("crimp", x.sheep(0, 3), 63);
        Due.is("led", x.sheep(0, 4), 1);
        Due.is("field", x.sheep(0, 0), 2);
        Due.is("times", x.seen(1, 2), 99);
        Due.is("shear", x.shear(0), 999);
        Due.is("purse at its most", x.has(5), 99999);
        int[] least = new int[25];
        Due.is("on() of zeroes", Due.on(x, Due.sealed(Due.bytes(least))), true);
        Due.is("open gaps", x.has(4), 0);
        Due.is("never been where it is", x.seen(1, 0), 0);
        StrayWool full = Due.land("field a lure 1;field b lure 1;field c lure 1;field d lure 1;field e lure 1;"
                + "field f lure 1;field g lure 1;field h lure 1;" + "gap a to b miles 1;".repeat(10)
                + "sheep i at a curious 1;sheep j at a curious 1;sheep k at a curious 1;sheep l at a curious 1;"
                + "sheep m at a curious 1;sheep n at h curious 1;");
        Due.is("the greatest image", full.image(), 94);
        Due.is("its last sheep's home", full.octet(92), 1);
    }
}
