/** Promises 24 to 26: what is felt, how curious one can be, what tells most. */
public final class CuriousTest {
    private static final int ALL = 1023;
    private static final int ABOVE_FOUR = 992;
    private static final int FOUR = 16;
    private static final int BELOW_FOUR = 15;

    public static void main(String[] args) {
        feel();
        curious();
        fromNowOn();
        tells();
        lateInTime();
        Due.close("CuriousTest");
    }

    private static void feel() {
        StrayWool x = Due.land(Lands.SIEVE);
        Due.is("no row", Due.feel(x), -1);
        Due.is("two bytes", Due.feel(x, 1, 1), -1);
        Due.is("four bytes", Due.feel(x, 1, 1, 1, 1), -1);
        Due.is("31 days", Due.feel(x, 31, 1, 1), -1);
        Due.is("sheep 2", Due.feel(x, 1, 2, 1), -1);
        Due.is("crimp 64", Due.feel(x, 1, 1, 64), -1);
        Due.is("bytes above 127", Due.feel(x, 1, 1, 255), -1);
        Due.is("17 rows", Due.feel(x, new int[51]), -1);
        Due.is("refused", x.status(1), 8);
        Due.is("nothing felt", x.has(8), 0);
        Due.is("edges", Due.feel(x, 30, 1, 63, 0, 0, 0), 2);
        Due.is("16 rows", Due.feel(x, new int[48]), 16);
        Due.is("a wrong second row", Due.feel(x, 1, 1, 1, 31, 1, 1), -1);
        Due.is("all stays", x.has(8), 16);
        Due.is("the tape goes", x.end(1), false);
        Due.is("anew", Due.feel(x, 1, 1, 1), 1);
        Due.is("anew felt", x.has(8), 1);
        x.days(1);
        x.undo();
        Due.is("acts leave it", x.has(8), 1);
        Due.on(x, Due.image(x));
        Due.is("an image leaves it", x.has(8), 1);
        Due.upland(x, Lands.SIEVE);
        Due.is("an upland does not", x.has(8), 0);
    }

    private static void curious() {
        StrayWool x = Due.land(Lands.SIEVE);
        Due.is("nothing felt", x.curious(1), ALL);
        Due.is("sheep 2", x.curious(2), -1);
        Due.is("sheep -1", x.curious(-1), -1);
        Due.feel(x, 1, 1, 1);
        Due.is("by gap 0", x.curious(1), ABOVE_FOUR);
        Due.is("of another sheep that goes so", x.curious(0), ALL);
        Due.feel(x, 1, 1, 2);
        Due.is("by gap 1", x.curious(1), BELOW_FOUR);
        Due.is("of another sheep that does not go so", x.curious(0), 0);
        Due.feel(x, 1, 1, 0);
        Due.is("not at all", x.curious(1), FOUR);
        Due.feel(x, 1, 1, 3);
        Due.is("never", x.curious(1), 0);
        Due.feel(x, 0, 1, 0);
        Due.is("behind no day", x.curious(1), ALL);
        Due.feel(x, 0, 1, 1);
        Due.is("behind no day otherwise", x.curious(1), 0);
        Due.feel(x, 2, 1, 8, 1, 1, 2, 30, 0, 0);
        Due.is("rows agree", x.curious(1), BELOW_FOUR);
        Due.feel(x, 2, 1, 8, 1, 1, 1);
        Due.is("rows don't agree", x.curious(1), 0);
        Due.feel(x, 1, 1, 2, 1, 0, 1);
        Due.is("another sheep's row does not hold", x.curious(1), 0);
    }

    /** The days of what is felt are ahead of the day on which it is asked. */
    private static void fromNowOn() {
        StrayWool x = Due.land(Lands.SIEVE);
        Due.feel(x, 1, 1, 4);
        Due.is("not behind one day", x.curious(1), 0);
        x.days(1);
        Due.is("behind two days", x.curious(1), ABOVE_FOUR);
        x.shear(1);
        Due.is("shorn", x.curious(1), 0);
    }

    private static void tells(StrayWool x, int sheep, int day, int by, int left) {
        Due.is("tells day", x.tells(sheep, 0), day);
        Due.is("tells sheep", x.tells(sheep, 1), by);
        Due.is("tells left", x.tells(sheep, 2), left);
    }

    private static void tells() {
        StrayWool x = Due.land(Lands.SIEVE);
        tells(x, 1, 1, 1, 5);
        tells(x, 0, 1, 0, 5);
        Due.feel(x, 1, 1, 1);
        tells(x, 1, 1, 0, 5);
        Due.feel(x, 1, 1, 3);
        tells(x, 1, -1, -1, -1);
        tells(x, 2, -1, -1, -1);
        tells(x, -1, -1, -1, -1);
        Due.is("what 3", x.tells(0, 3), -1);
        Due.is("what -1", x.tells(0, -1), -1);
        StrayWool none = Due.land("field a lure 1;field b lure 1;gap a to b miles 1;sheep s at a curious 3;"
                + "lures 1-curious;");
        tells(none, 0, 1, 0, 9);
        Due.feel(none, 1, 0, 1);
        Due.is("0 alone", none.curious(0), 1);
        tells(none, 0, 1, 0, 1);
        // Below the day's number one goes, so each day parts one number more from the rest.
        StrayWool steps = Due.land("field a lure 1;field b lure 0;gap a to b miles 1;sheep s at a curious 0;"
                + "lures max(0,day-curious)*(lure-seen+1-lure);");
        tells(steps, 0, 6, 0, 5);
    }

    private static void lateInTime() {
        StrayWool x = Due.land(Lands.SIEVE);
        byte[] image = Due.image(x);
        image[0] = 3;
        image[1] = (byte) 230;
        Due.on(x, Due.sealed(image));
        Due.is("day", x.has(3), 998);
        tells(x, 1, 1, 1, 5);
        Due.feel(x, 1, 1, 1);
        Due.is("day 999", x.curious(1), ABOVE_FOUR);
        Due.feel(x, 2, 1, 4);
        Due.is("beyond 999", x.curious(1), 0);
        Due.feel(x, 2, 0, 0);
        Due.is("beyond 999 of another", x.curious(1), 0);
        Due.feel(x, 0, 0, 0);
        x.days(1);
        Due.is("behind no day at 999", x.curious(1), 0 == x.sheep(0, 3) ? ALL : 0);
        tells(x, 1, -1, -1, -1);
    }
}
