/** Puts an object into a state that days alone reach late or never, by an image. */
final class Put {
    private Put() {
    }

    static void day(StrayWool x, int day) {
        put(x, 0, 2, day);
    }

    static void purse(StrayWool x, int purse) {
        put(x, 2, 3, purse);
    }

    static void open(StrayWool x, int gap, int open) {
        put(x, 5 + gap, 1, open);
    }

    static void field(StrayWool x, int sheep, int field) {
        put(x, at(x, sheep), 1, field);
    }

    static void miles(StrayWool x, int sheep, int miles) {
        put(x, at(x, sheep) + 1, 2, miles);
    }

    /** Of sheep 0, 1, .. */
    static void allMiles(StrayWool x, int... miles) {
        byte[] image = Due.image(x);
        int length = 5 + x.has(0);
        int from = at(x, 0);
        for (int s = 0; s < miles.length; s++) {
            image[from + s * length + 1] = (byte) (miles[s] >> 8);
            image[from + s * length + 2] = (byte) miles[s];
        }
        Due.is("on() with miles", Due.on(x, Due.sealed(image)), true);
    }

    static void crimp(StrayWool x, int sheep, int crimp) {
        put(x, at(x, sheep) + 3, 1, crimp);
    }

    static void led(StrayWool x, int sheep, int led) {
        put(x, at(x, sheep) + 4, 1, led);
    }

    static void times(StrayWool x, int sheep, int field, int times) {
        put(x, at(x, sheep) + 5 + field, 1, times);
    }

    /** Where a sheep's bytes begin. */
    static int at(StrayWool x, int sheep) {
        return 5 + x.has(1) + sheep * (5 + x.has(0));
    }

    /** The image as it is, with another number at some bytes, and its last byte put right. */
    static byte[] changed(StrayWool x, int from, int count, int number) {
        byte[] image = Due.image(x);
        for (int i = 0; i < count; i++) {
            image[from + i] = (byte) (number >> 8 * (count - 1 - i));
        }
        return Due.sealed(image);
    }

    private static void put(StrayWool x, int from, int count, int number) {
        if (!Due.on(x, changed(x, from, count, number))) {
            Due.is("on() with " + number + " at " + from, 0, 1);
        }
    }
}
