import java.util.Random;

/** Rule 7, and the wrong inputs of all promises: no call throws, whatever it is given in whatever state. */
public final class WrongInputsTest {
    private static final int[] NUMBERS = {0, 1, -1, 2, 3, 5, 6, 7, 8, 9, 10, 12, 13, 20, 21, 30, 31, 40, 41, 60, 61, 63,
        64, 99, 100, 101, 999, 1000, 1600, 9999, 10000, 65536, 1 << 30, Integer.MAX_VALUE, Integer.MIN_VALUE,
        Integer.MIN_VALUE + 1, Integer.MAX_VALUE - 998};
    private static final Random RANDOM = new Random(7);

    public static void main(String[] args) {
        Texts texts = new Texts(RANDOM);
        long calls = 0;
        for (int run = 0; run < 300; run++) {
            StrayWool x = new StrayWool();
            if (RANDOM.nextInt(4) > 0) {
                Due.upland(x, texts.upland(8, 10, 6));
            }
            for (int n = 0; n < 300; n++) {
                int which = RANDOM.nextInt(40);
                try {
                    call(x, which, texts);
                    calls++;
                } catch (RuntimeException e) {
                    Due.is("call " + which + " threw " + e + " at " + e.getStackTrace()[0], 1, 0);
                }
            }
        }
        Due.is("calls", calls, 90000);
        Due.close("WrongInputsTest");
    }

    private static int any() {
        return RANDOM.nextInt(3) == 0 ? NUMBERS[RANDOM.nextInt(NUMBERS.length)] : RANDOM.nextInt(8) - 1;
    }

    private static void call(StrayWool x, int which, Texts texts) {
        switch (which) {
            case 0 -> x.feed(any(), any(), any(), any(), any());
            case 1 -> x.end(any());
            case 2 -> Due.is("upland", x.upland() >= -1, true);
            case 3 -> x.fault(any());
            case 4 -> x.has(any());
            case 5 -> x.letter(any(), any(), any());
            case 6 -> x.lure(any());
            case 7 -> x.gap(any(), any());
            case 8 -> x.sheep(any(), any());
            case 9 -> x.seen(any(), any());
            case 10 -> x.strays(any());
            case 11 -> x.brings(any());
            case 12 -> x.kept(any(), any());
            case 13 -> x.later(any(), any(), any());
            case 14 -> x.home(any());
            case 15 -> x.gaps(any(), any(), any());
            case 16 -> x.rumour(any(), any());
            case 17 -> x.way(any(), any());
            case 18 -> x.waits(any(), any(), any());
            case 19 -> x.coat(any());
            case 20 -> x.watch(any());
            case 21 -> x.ways(any(), any(), any());
            case 22 -> x.feel();
            case 23 -> x.curious(any());
            case 24 -> x.tells(any(), any());
            case 25 -> x.shear(any());
            case 26 -> x.lead(any(), any());
            case 27 -> x.swing(any(), any());
            case 28 -> x.tell(any(), any(), any());
            case 29 -> x.days(any());
            case 30 -> x.chance(any());
            case 31 -> x.undo();
            case 32 -> x.seed(any());
            case 33 -> Due.ask(x, texts.question());
            case 34 -> x.image();
            case 35 -> x.octet(any());
            case 36 -> x.on();
            case 37 -> x.status(any());
            case 38 -> Due.upland(x, texts.spoiled(texts.upland(8, 10, 6)));
            default -> Due.feel(x, RANDOM.nextInt(32), RANDOM.nextInt(7), RANDOM.nextInt(65));
        }
    }
}
