/** Uplands that several tests share; how the sheep of HILLS stray has been reckoned by hand. */
final class Lands {
    static final String FIELDS = "field a lure 5;field b lure 8;field c lure 3;";
    static final String GAPS = "gap a to b miles 4;gap b to c miles 6;gap c to a miles 2;";
    static final String SHEEP = "sheep ewe at a curious 6;sheep ram at c curious 2;";
    static final String HILLS = FIELDS + GAPS + SHEEP;

    /** Where ewe and ram of HILLS are behind 0, 1, .. days. */
    static final int[] EWE_FIELD = {0, 1, 0, 1, 0, 1, 2, 1, 0, 1, 2};
    static final int[] EWE_MILES = {0, 4, 8, 12, 16, 20, 26, 32, 36, 40, 46};
    static final int[] EWE_CRIMP = {0, 1, 4, 13, 40, 57, 45, 9, 28, 21, 1};
    static final int[] RAM_FIELD = {2, 1, 0, 1, 0, 1, 0, 1, 0, 1, 2};
    static final int[] RAM_MILES = {0, 6, 10, 14, 18, 22, 26, 30, 34, 38, 44};

    /** Sheep above 4 go through gap 0, those below through gap 1, back and forth; 4 stays where it is. */
    static final String SIEVE = "field a lure 0;field b lure 0;field c lure 0;gap a to b miles 1;gap a to c miles 5;"
            + "sheep dog at a curious 4;sheep s at a curious 7;lures (curious-4)*(3-miles);";

    private Lands() {
    }
}
