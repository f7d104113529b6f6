import java.util.Arrays;
import java.util.Random;

/** Promises 1 to 39: every call of the face in any order, 512 on one object, each answer held against Whole. */
public final class RandomFaceTest {
    private static final int CALLS = 512;
    private final Random random;
    private final Texts texts;
    private StrayWool x;
    private Whole w;
    private int run;
    private int calls;

    private RandomFaceTest(long seed) {
        random = new Random(seed);
        texts = new Texts(random);
    }

    public static void main(String[] args) {
        int runs = args.length > 0 ? Integer.parseInt(args[0]) : 40;
        RandomFaceTest test = new RandomFaceTest(args.length > 1 ? Long.parseLong(args[1]) : 11);
        for (int n = 0; n < runs; n++) {
            test.begin(n);
            while (test.calls < CALLS) {
                test.some();
            }
        }
        Due.close("RandomFaceTest");
    }

    private void begin(int n) {
        x = new StrayWool();
        w = new Whole();
        run = n;
        calls = 0;
    }

    /** What an object answers behind its last promised call is free. */
    private void due(String call, long got, long want, int... args) {
        calls++;
        if (calls <= CALLS) {
            Due.is("run " + run + ", call " + calls + ", " + call + Arrays.toString(args), got, want);
        }
    }

    private void due(String call, boolean got, long want, int... args) {
        due(call, got ? 1 : 0, want, args);
    }

    /** Mostly one of 0 .. many - 1, sometimes beside these, seldom far off. */
    private int of(int many) {
        return switch (random.nextInt(60)) {
            case 0, 1, 2 -> -1;
            case 3, 4, 5 -> many;
            case 6 -> Integer.MIN_VALUE;
            case 7 -> Integer.MAX_VALUE;
            default -> random.nextInt(Math.max(1, many));
        };
    }

    private int field() {
        return of(w.m.lures.size());
    }

    private int gap() {
        return of(w.m.gaps.size());
    }

    private int sheep() {
        return of(w.m.now.sheep.length);
    }

    /** Mostly few days, since many take all sheep to where they stay. */
    private int days(int most) {
        return of(random.nextInt(3) == 0 ? most + 1 : 7);
    }

    private void some() {
        switch (random.nextInt(7)) {
            case 0 -> told();
            case 1, 2 -> act();
            case 3 -> look();
            case 4 -> lookOver();
            case 5 -> ahead();
            default -> more();
        }
    }

    // ---- the tape

    private void told() {
        int kind = w.m.lures.isEmpty() || random.nextInt(12) == 0 ? 0 : 1 + random.nextInt(3);
        feed(switch (kind) {
            case 0 -> Due.bytes(upland());
            case 1 -> rows();
            case 2 -> Due.bytes(question());
            default -> image();
        });
        // Sometimes a call reads what was meant for another one.
        switch (random.nextInt(20) == 0 ? random.nextInt(4) : kind) {
            case 0 -> due("upland", x.upland(), w.upland());
            case 1 -> due("feel", x.feel(), w.feel());
            case 2 -> due("ask", x.ask(), w.ask());
            default -> due("on", x.on(), w.on());
        }
        due("fault", x.fault(0), w.fault(0), 0);
        due("fault", x.fault(1), w.fault(1), 1);
    }

    private String upland() {
        String text = texts.upland(random.nextBoolean() ? 4 : 8, random.nextInt(8) == 0 ? 8 : 5,
                random.nextBoolean() ? 3 : 6);
        return random.nextInt(4) == 0 ? texts.spoiled(text) : text;
    }

    private String question() {
        String text = texts.question();
        return random.nextInt(3) == 0 ? texts.spoiled(text) : text;
    }

    /** Crimps as they will be felt, but for some bytes. */
    private byte[] rows() {
        int[] bytes = new int[3 * random.nextInt(random.nextInt(4) == 0 ? 19 : 4)];
        int whose = random.nextInt(Math.max(1, w.m.now.sheep.length));
        for (int i = 0; i < bytes.length; i += 3) {
            bytes[i] = random.nextInt(random.nextBoolean() ? 31 : 5);
            bytes[i + 1] = whose;
            bytes[i + 2] = Math.max(0, w.m.later(whose, bytes[i], 2));
        }
        if (bytes.length > 0 && random.nextInt(4) == 0) {
            bytes[random.nextInt(bytes.length)] = random.nextInt(random.nextBoolean() ? 256 : 32);
        }
        return Due.bytes(random.nextInt(10) == 0 ? Arrays.copyOf(bytes, bytes.length + 1) : bytes);
    }

    /** One of this upland with some bytes changed, its last one mostly put right. */
    private byte[] image() {
        byte[] image = w.m.image();
        for (int n = random.nextInt(4); n > 0; n--) {
            int at = random.nextInt(image.length);
            image[at] = (byte) (random.nextInt(4) == 0 ? random.nextInt(256) : image[at] + random.nextInt(3) - 1);
        }
        if (random.nextInt(3) == 0) {
            int day = 1001 - random.nextInt(60);
            image[0] = (byte) (day >> 8);
            image[1] = (byte) day;
        }
        if (random.nextInt(12) == 0) {
            image = Arrays.copyOf(image, image.length + random.nextInt(3) - 1);
        }
        return random.nextInt(8) == 0 ? image : Due.sealed(image);
    }

    private void feed(byte[] bytes) {
        due("end", x.end(0), w.end(0), 0);
        byte[] fed = Arrays.copyOf(bytes, (bytes.length + 19) / 20 * 20);
        for (int i = 0; i < fed.length; i += 20) {
            int[] five = new int[5];
            for (int k = 0; k < 20; k++) {
                five[k / 4] = five[k / 4] << 8 | fed[i + k] & 255;
            }
            due("feed", x.feed(five[0], five[1], five[2], five[3], five[4]), w.feed(five), five);
        }
        int n = random.nextInt(30) == 0 ? bytes.length + random.nextInt(40) - 20 : bytes.length;
        due("end", x.end(n), w.end(n), n);
    }

    // ---- acts

    private void act() {
        int s = sheep();
        int f = field();
        int k = gap();
        int n = days(100);
        int on = of(2);
        int seed = random.nextInt();
        switch (random.nextInt(9)) {
            case 0 -> due("shear", x.shear(s), w.shear(s), s);
            case 1 -> due("lead", x.lead(s, k), w.lead(s, k), s, k);
            case 2 -> due("swing", x.swing(k, on), w.swing(k, on), k, on);
            case 3 -> due("tell", x.tell(s, f, n), w.tell(s, f, n), s, f, n);
            case 4, 5 -> due("days", x.days(n), w.days(n), n);
            case 6 -> due("chance", x.chance(n), w.chance(n), n);
            case 7 -> due("undo", x.undo(), w.undo());
            default -> due("seed", x.seed(seed), w.seed(seed), seed);
        }
    }

    // ---- what there is

    private void look() {
        int s = sheep();
        int f = field();
        int k = gap();
        int what = of(6);
        int kind = of(2);
        int which = kind == 0 ? f : s;
        switch (random.nextInt(9)) {
            case 0, 1 -> due("letter", x.letter(kind, which, what), w.letter(kind, which, what), kind, which, what);
            case 2 -> due("lure", x.lure(f), w.lure(f), f);
            case 3 -> due("gap", x.gap(k, what), w.gap(k, what), k, what);
            case 4 -> due("sheep", x.sheep(s, what), w.sheep(s, what), s, what);
            case 5 -> due("seen", x.seen(s, f), w.seen(s, f), s, f);
            case 6 -> due("strays", x.strays(s), w.strays(s), s);
            case 7 -> due("brings", x.brings(s), w.brings(s), s);
            default -> due("kept", x.kept(k, what), w.kept(k, what), k, what);
        }
    }

    private void lookOver() {
        int what = of(11);
        int k = of(40);
        int byteOf = of(95);
        switch (random.nextInt(6)) {
            case 0 -> due("has", x.has(what), w.has(what), what);
            case 1 -> due("status", x.status(what), w.status(what), what);
            case 2 -> due("fault", x.fault(what), w.fault(what), what);
            case 3 -> due("image", x.image(), w.image());
            case 4 -> due("octet", x.octet(byteOf), w.octet(byteOf), byteOf);
            default -> due("kept", x.kept(k, what & 3), w.kept(k, what & 3), k, what & 3);
        }
    }

    // ---- ahead

    private void ahead() {
        int s = sheep();
        int f = field();
        int g = field();
        int what = of(3);
        int n = days(60);
        int few = days(20);
        int some = days(40);
        switch (random.nextInt(7)) {
            case 0 -> due("later", x.later(s, n, what), w.m.later(s, n, what), s, n, what);
            case 1 -> due("home", x.home(s), w.m.home(s), s);
            case 2 -> due("gaps", x.gaps(s, f, few), w.m.gaps(s, f, few), s, f, few);
            case 3 -> due("rumour", x.rumour(some, what), w.m.rumour(some, what), some, what);
            case 4 -> due("way", x.way(f, g), w.m.way(f, g), f, g);
            case 5 -> due("waits", x.waits(s, n, what), w.m.waits(s, n, what), s, n, what);
            default -> due("watch", x.watch(n), w.m.watch(n), n);
        }
    }

    private void more() {
        int s = sheep();
        int f = field();
        int n = of(13);
        int what = of(3);
        int crimp = of(64);
        int miles = of(random.nextInt(3) == 0 ? 9999 : 1 + Model.allMiles(w.m.now));
        switch (random.nextInt(4)) {
            case 0 -> due("coat", x.coat(miles), w.m.coat(miles), miles);
            case 1 -> due("ways", x.ways(f, n, crimp), w.ways(f, n, crimp), f, n, crimp);
            case 2 -> due("curious", x.curious(s), w.m.curious(s), s);
            default -> due("tells", x.tells(s, what), w.m.tells(s, what), s, what);
        }
    }
}
