import java.util.Random;

/** Promises 4, 5, 35: the faults of random texts, held against Grammar. */
public final class RandomFaultsTest {
    public static void main(String[] args) {
        int rounds = args.length > 0 ? Integer.parseInt(args[0]) : 3000;
        Random random = new Random(args.length > 1 ? Long.parseLong(args[1]) : 39);
        Texts texts = new Texts(random);
        for (int n = 0; n < rounds; n++) {
            StrayWool x = new StrayWool();
            String upland = texts.upland(4, 3, 2);
            upland = random.nextInt(8) == 0 ? upland : texts.spoiled(upland);
            if (upland.length() <= 1600) {
                Grammar.Fault due = Grammar.ofUpland(upland);
                int got = Due.upland(x, upland);
                same(x, due, upland);
                Due.is("refused: " + upland, got < 0, due.kind() > 0);
            }
            String question = texts.question();
            question = random.nextInt(8) == 0 ? question : texts.spoiled(question);
            if (question.length() <= 1600) {
                Grammar.Fault due = Grammar.ofQuestion(question);
                long got = Due.ask(x, question);
                same(x, due, question);
                Due.is("NOTHING: " + question, got == StrayWool.NOTHING, due.kind() > 0);
            }
        }
        Due.close("RandomFaultsTest");
    }

    private static void same(StrayWool x, Grammar.Fault due, String text) {
        Due.is("fault(0) of " + text, x.fault(0), due.kind());
        Due.is("fault(1) of " + text, x.fault(1), due.place());
    }
}
