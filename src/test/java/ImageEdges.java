import java.util.Arrays;

/** Edges of promises 36 to 38: images. */
final class ImageEdges {
    private ImageEdges() {
    }

    static void run() {
        bytes();
        written();
        lengths();
        octets();
        on();
        atMost();
        noneSuch();
        staying();
    }

    private static void bytes() {
        Edge e = Edge.of(36, "AN IMAGE: DAY (two bytes, the higher first), the purse (three bytes); for each GAP 1 if"
                + " it is OPEN, else 0; for each SHEEP its FIELD,"
                + " miles (two bytes), CRIMP, 1 if it is LED, else 0, how many times it has been in each FIELD; last"
                + " a byte:"
                + " all ahead from 227 on, c = (3 c + it) mod 251.");
        StrayWool x = Due.land("field a lure 1;field b lure 1;gap a to b miles 1;gap a to b miles 1;shut 1;sheep s at a curious 9;sheep t at b curious 9;");
        int[] first = {0, 0, 0, 0, 0, 1, 0, 0, 0, 0, 0, 0, 1, 0, 1, 0, 0, 0, 0, 0, 1, 0};
        same(e, "at first", x, first);
        int[] days = {0, 1, 255, 256, 257, 511, 512, 999};
        for (int day : days) {
            Put.day(x, day);
            first[0] = day / 256;
            first[1] = day % 256;
            same(e, "day " + day, x, first);
        }
        int[] purses = {255, 256, 65535, 65536, 65537, 99999};
        StrayWool y = Due.land("field a lure 1;field b lure 1;gap a to b miles 1;gap a to b miles 1;shut 1;sheep s at a curious 9;sheep t at b curious 9;");
        int[] next = {0, 0, 0, 0, 0, 1, 0, 0, 0, 0, 0, 0, 1, 0, 1, 0, 0, 0, 0, 0, 1, 0};
        for (int purse : purses) {
            Put.purse(y, purse);
            next[2] = purse / 65536;
            next[3] = purse / 256 % 256;
            next[4] = purse % 256;
            same(e, "purse " + purse, y, next);
        }
    }

    private static void same(Edge e, String what, StrayWool x, int[] want) {
        byte[] sealed = Due.sealed(Due.bytes(want));
        e.is(what + ", bytes", x.image(), want.length);
        int[] got = new int[want.length];
        int[] due = new int[want.length];
        for (int k = 0; k < want.length; k++) {
            got[k] = x.octet(k);
            due[k] = sealed[k] & 255;
        }
        e.are(what, got, due);
    }

    private static void written() {
        Edge e = Edge.of(36, "for each SHEEP its FIELD, miles (two bytes), CRIMP, 1 if it is LED, else 0, how many"
                + " times it has been in each FIELD");
        StrayWool x = Due.land(AheadEdges.SHUTTLE + "sheep t at b curious 0;");
        for (int miles : new int[] {255, 256, 767, 768, 999}) {
            Put.allMiles(x, miles, 999 - miles);
            x.image();
            int at = Put.at(x, 0);
            e.are("miles " + miles, new int[] {x.octet(at + 1), x.octet(at + 2)}, miles / 256, miles % 256);
            e.are("the rest of 999", new int[] {x.octet(at + 8), x.octet(at + 9)}, (999 - miles) / 256, (999 - miles) % 256);
        }
        StrayWool y = Due.land(AheadEdges.SHUTTLE);
        y.tell(0, 0, 99);
        y.lead(0, 0);
        Put.crimp(y, 0, 63);
        y.image();
        int at = Put.at(y, 0);
        e.are("a sheep", new int[] {y.octet(at), y.octet(at + 3), y.octet(at + 4), y.octet(at + 5), y.octet(at + 6)}, 1, 63, 1, 99, 1);
        y.swing(0, 0);
        y.image();
        e.is("a gap that is shut", y.octet(5), 0);
    }

    private static void lengths() {
        Edge e = Edge.of(36, "AN IMAGE is written: how many bytes.");
        e.is("nothing", new StrayWool().image(), 6);
        e.is("fields alone", Due.land(TextEdges.fields(8)).image(), 6);
        e.is("gaps", Due.land(TextEdges.fields(2) + "gap a to b miles 1;".repeat(10)).image(), 16);
        e.is("a sheep in one field", Due.land(TextEdges.fields(1) + TextEdges.sheep(1, "a")).image(), 12);
        e.is("six sheep in eight fields", Due.land(TextEdges.fields(8) + TextEdges.sheep(6, "a")).image(), 84);
        e.is("all", Due.land(LandEdges.full()).image(), 94);
    }

    private static void octets() {
        Edge e = Edge.of(37, "Byte k of the latest image(); NONE when there is none such.");
        StrayWool x = Due.land(LandEdges.full());
        e.are("ahead of any", new int[] {x.octet(-1), x.octet(0), x.octet(93)}, -1, -1, -1);
        x.image();
        e.are("edges", new int[] {x.octet(-1), x.octet(0), x.octet(92), x.octet(94)}, -1, 0, 0, -1);
        e.is("the last one", x.octet(93), Due.sealed(Due.image(x))[93] & 255);
        e.is("least", x.octet(Integer.MIN_VALUE), -1);
        e.is("most", x.octet(Integer.MAX_VALUE), -1);
        x.days(1);
        e.is("the latest, though a day has passed", x.octet(1), 0);
        x.image();
        e.is("the next", x.octet(1), 1);
        x.undo();
        e.is("undo leaves it", x.octet(1), 1);
        Due.upland(x, "");
        e.is("an upland leaves it", x.octet(92) >= 0, true);
        x.image();
        e.are("a short one", new int[] {x.octet(5), x.octet(6), x.octet(93)}, 192, -1, -1);
    }

    private static void on() {
        Edge e = Edge.of(38, "The tape (it goes) is AN IMAGE of this UPLAND: true, all is as it tells, nothing is"
                + " KEPT or can be undone;");
        StrayWool x = Due.land(LandEdges.full());
        byte[] first = Due.image(x);
        x.days(3);
        Due.feel(x, 1, 0, 1);
        x.seed(0);
        byte[] third = Due.image(x);
        e.are("ahead of it", new int[] {x.has(3), x.has(7), x.has(9)}, 3, 18, 1);
        e.is("on()", Due.on(x, first), true);
        e.are("all", new int[] {x.has(3), x.has(6), x.has(7), x.has(8), x.has(9), x.kept(0, 0)}, 0, 0, 0, 1, 0, -1);
        e.is("the tape goes", x.end(1), false);
        e.is("undo", x.undo(), false);
        e.is("the later one", Due.on(x, third), true);
        e.is("image", Arrays.equals(third, Due.image(x)), true);
        StrayWool other = Due.land(LandEdges.full());
        e.is("another object", Due.on(other, third), true);
        e.is("goes on alike", other.days(5), x.days(5));
        e.is("and is alike", Arrays.equals(Due.image(other), Due.image(x)), true);
        e.is("how curious is the upland's", other.sheep(5, 1), 9);
        e.is("homes are the upland's", other.sheep(5, 5), 5);
    }

    private static void atMost() {
        Edge e = Edge.of(38, "false, refused (5), when it is none (DAY, miles 999, the purse 99999, CRIMPS 63, times"
                + " 99, flags 1 at most; FIELDS that there are), all staying.");
        // From where, how many bytes, the most: day, purse, the first and the last gap, a sheep's own bytes.
        int sheep = 5 + 10 + 5 * 13;
        int[][] rows = {{0, 2, 999}, {2, 3, 99999}, {5, 1, 1}, {14, 1, 1}, {15, 1, 7}, {sheep, 1, 7}, {sheep + 1, 2, 999}, {sheep + 3, 1, 63},
            {sheep + 4, 1, 1}, {sheep + 5, 1, 99}, {sheep + 12, 1, 99}};
        for (int[] row : rows) {
            for (int more : new int[] {-1, 0, 1}) {
                StrayWool x = Due.land(LandEdges.full());
                byte[] image = Put.changed(x, row[0], row[1], row[2] + more);
                e.is((row[2] + more) + " at byte " + row[0], Due.on(x, image), more <= 0);
                e.is("refused", x.status(5), more <= 0 ? 0 : 1);
            }
            for (int b = 0; b < row[1]; b++) {
                StrayWool x = Due.land(LandEdges.full());
                byte[] image = Put.changed(x, row[0] + b, 1, 255);
                boolean due = row[1] > 1 && b == row[1] - 1;
                e.is("255 at byte " + (row[0] + b), Due.on(x, image), due || row[1] == 3 && b == 1);
            }
        }
        StrayWool one = Due.land("field a lure 1;sheep s at a curious 0;");
        e.is("field 0 of one", Due.on(one, Put.changed(one, 5, 1, 0)), true);
        e.is("field 1 of one", Due.on(one, Put.changed(one, 5, 1, 1)), false);
    }

    private static void noneSuch() {
        Edge e = Edge.of(38, "false, refused (5), when it is none");
        StrayWool x = Due.land(AheadEdges.SHUTTLE);
        byte[] image = Due.image(x);
        int refused = 0;
        e.is("nothing", Due.on(x, new byte[0]), false);
        e.is("one byte less", Due.on(x, Due.sealed(Arrays.copyOf(image, image.length - 1))), false);
        e.is("one byte more", Due.on(x, Due.sealed(Arrays.copyOf(image, image.length + 1))), false);
        refused += 3;
        for (int k = 0; k < image.length; k++) {
            byte[] other = image.clone();
            other[k]++;
            e.is("byte " + k + " one more", Due.on(x, other), false);
            other[k] -= 2;
            e.is("byte " + k + " one less", Due.on(x, other), false);
            refused += 2;
        }
        e.is("refused", x.status(5), refused);
        byte[] beyond = image.clone();
        int last = image.length - 1;
        if ((image[last] & 255) <= 4) {
            beyond[last] += 251;
            e.is("the last byte above 250", Due.on(x, beyond), false);
        }
        e.is("as it is", Due.on(x, image), true);
        StrayWool other = Due.land(AheadEdges.SHUTTLE + "gap a to b miles 2;");
        e.is("of another upland", Due.on(other, image), false);
    }

    private static void staying() {
        Edge e = Edge.of(38, "all staying");
        StrayWool x = Due.land(LandEdges.full());
        x.days(2);
        byte[] image = Due.image(x);
        // All is another one's but for the very last number, which can't be.
        byte[] wrong = Due.image(Due.land(LandEdges.full()));
        wrong[92] = 100;
        e.is("on()", Due.on(x, Due.sealed(wrong)), false);
        e.is("image", Arrays.equals(image, Due.image(x)), true);
        e.are("kept, acts", new int[] {x.has(7), x.has(9)}, 12, 1);
        e.is("the tape goes", x.end(1), false);
        e.is("undo", x.undo(), true);
        e.is("day", x.has(3), 0);
    }
}
