import java.util.Arrays;
import java.util.Random;

/** Promises 4 to 38: random runs of calls, each answer held against Model. */
public final class RandomRunsTest {
    private final Random random;
    private final Texts texts;
    private StrayWool x;
    private Model m;
    private String text;

    private RandomRunsTest(long seed) {
        random = new Random(seed);
        texts = new Texts(random);
    }

    public static void main(String[] args) {
        int rounds = args.length > 0 ? Integer.parseInt(args[0]) : 400;
        RandomRunsTest test = new RandomRunsTest(args.length > 1 ? Long.parseLong(args[1]) : 1);
        for (int n = 0; n < rounds; n++) {
            test.run();
        }
        Due.close("RandomRunsTest");
    }

    private void run() {
        x = new StrayWool();
        if (random.nextBoolean()) {
            use();
        }
        text = texts.upland(random.nextBoolean() ? 4 : 8, random.nextInt(4) == 0 ? 10 : 5, random.nextBoolean() ? 3 : 6);
        m = new Model(text);
        Due.is("upland() of " + text, Due.upland(x, text), m.statements);
        if (random.nextInt(4) == 0) {
            late();
        }
        for (int n = 0; n < 12; n++) {
            act();
            if (random.nextInt(3) == 0) {
                whole();
            }
            ask();
        }
    }

    /** What other uplands leave behind must not be seen in the next one. */
    private void use() {
        for (int n = 1 + random.nextInt(3); n > 0; n--) {
            Due.upland(x, texts.upland(8, 10, 6));
            x.chance(1 + random.nextInt(60));
            x.lead(0, 0);
            x.shear(1);
            Due.feel(x, 1, 0, 1);
            Due.ask(x, texts.question());
        }
        x.seed(1);
    }

    private void due(String call, long got, long want) {
        Due.is(call + " of " + text, got, want);
    }

    private int sheep() {
        return random.nextInt(m.now.sheep.length + (random.nextInt(10) == 0 ? 2 : 1)) - (random.nextInt(10) == 0 ? 1 : 0);
    }

    private int field() {
        return random.nextInt(m.lures.size() + (random.nextInt(10) == 0 ? 1 : 0));
    }

    private int gap() {
        return random.nextInt(m.gaps.size() + 1);
    }

    /** Near the last day, where not all days come. */
    private void late() {
        m.now.day = 999 - random.nextInt(40);
        m.now.purse = random.nextInt(100000);
        for (Model.Sheep s : m.now.sheep) {
            s.miles = random.nextInt(1000);
            s.crimp = random.nextInt(64);
            s.led = random.nextInt(2);
            s.field = random.nextInt(m.lures.size());
            for (int f = 0; f < s.times.length; f++) {
                s.times[f] = random.nextInt(4) == 0 ? 99 - random.nextInt(3) : random.nextInt(10);
            }
        }
        due("on()", Due.on(x, m.image()) ? 1 : 0, 1);
    }

    private void act() {
        int s = sheep();
        int f = field();
        int k = gap();
        int n = random.nextInt(random.nextBoolean() ? 5 : 103) - 1;
        switch (random.nextInt(9)) {
            case 0 -> due("shear", x.shear(s), m.shear(s));
            case 1 -> due("lead", x.lead(s, k) ? 1 : 0, m.lead(s, k) ? 1 : 0);
            case 2 -> {
                int on = random.nextInt(2);
                due("swing", x.swing(k, on) ? 1 : 0, m.swing(k, on) ? 1 : 0);
            }
            case 3 -> due("tell", x.tell(s, f, n) ? 1 : 0, m.tell(s, f, n) ? 1 : 0);
            case 4, 5 -> due("days", x.days(n), m.days(n));
            case 6 -> due("chance", x.chance(n), m.chance(n));
            case 7 -> due("undo", x.undo() ? 1 : 0, m.undo() ? 1 : 0);
            default -> {
                int seed = random.nextInt() & Integer.MAX_VALUE;
                m.seed = seed;
                due("seed", x.seed(seed) ? 1 : 0, 1);
            }
        }
    }

    /** All that there is, by the image, and what is kept. */
    private void whole() {
        byte[] want = m.image();
        byte[] got = Due.image(x);
        due("image() " + Arrays.toString(got) + " for " + Arrays.toString(want), Arrays.equals(got, want) ? 1 : 0, 1);
        due("has(7)", x.has(7), m.keptTold().size());
        due("has(9)", x.has(9), m.past.size());
        for (int n = 0; n < 4 && !m.keptTold().isEmpty(); n++) {
            int k = random.nextInt(m.keptTold().size());
            for (int what = 0; what < 4; what++) {
                due("kept", x.kept(k, what), m.keptTold().get(k)[what]);
            }
        }
    }

    private void ask() {
        int s = sheep();
        int f = field();
        int n = random.nextInt(random.nextInt(4) == 0 ? 63 : 12) - 1;
        int what = random.nextInt(10) == 0 ? 3 : random.nextInt(2);
        switch (random.nextInt(14)) {
            case 0 -> due("strays", x.strays(s), m.isSheep(s) ? m.choice(m.now, s) : -1);
            case 1 -> due("brings", x.brings(s), m.isSheep(s) ? m.worth(m.now, s) : -1);
            case 2 -> due("later", x.later(s, n, what), m.later(s, n, what));
            case 3 -> due("home", x.home(s), m.home(s));
            case 4 -> due("gaps", x.gaps(s, f, n), m.gaps(s, f, n));
            case 5 -> due("rumour", x.rumour(n, what), m.rumour(n, what));
            case 6 -> due("way", x.way(f, 0), m.way(f, 0));
            case 7 -> due("waits", x.waits(s, n, what), m.waits(s, n, what));
            case 8 -> due("coat", x.coat(20 * n), m.coat(20 * n));
            case 9 -> due("watch", x.watch(n), m.watch(n));
            case 10 -> {
                int gaps = random.nextInt(5);
                int crimp = random.nextInt(64);
                if (m.isField(f)) {
                    due("ways", x.ways(f, gaps, crimp), m.ways(f, gaps, crimp, 0));
                }
            }
            case 11, 12 -> curious(s);
            default -> {
                String question = texts.question();
                due("ask " + question, Due.ask(x, question), m.ask(question));
            }
        }
    }

    private void curious(int s) {
        if (random.nextBoolean() && m.now.sheep.length > 0) {
            feel();
        }
        due("curious", x.curious(s), m.curious(s));
        for (int what = 0; what < 4; what++) {
            due("tells", x.tells(s, what), m.tells(s, what));
        }
    }

    /** Mostly what could be felt indeed, of sheep with some number of their own. */
    private void feel() {
        int[] bytes = new int[3 * (1 + random.nextInt(3))];
        m.felt.clear();
        for (int i = 0; i < bytes.length; i += 3) {
            int n = random.nextInt(31);
            int s = random.nextInt(m.now.sheep.length);
            Model.World w = m.now.copy();
            w.sheep[s].curious = random.nextInt(3) == 0 ? random.nextInt(10) : w.sheep[s].curious;
            int crimp = m.ahead(w, n).sheep[s].crimp;
            bytes[i] = n;
            bytes[i + 1] = s;
            bytes[i + 2] = crimp;
            m.felt.add(new int[] {n, s, crimp});
        }
        due("feel", Due.feel(x, bytes), bytes.length / 3);
    }
}
