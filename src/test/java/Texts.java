import java.util.ArrayList;
import java.util.List;
import java.util.Random;

/** Random texts: uplands and questions without faults, and such as have been spoiled. */
final class Texts {
    private static final String[] PIECES = {"field", "lure", "gap", "to", "miles", "shut", "sheep", "at", "curious",
        "lures", "stays", "worth", "storm", "wool", "day", "seen", "crimp", "led", "number", "or", "and", "not", "all",
        "min", "max", "first", "last", "often", "total", "most", "least", "a", "b", "sa", "abcdef", "abcdefg",
        "curiouss", "0", "1", "9", "10", "0100", "1234", "12345", ";", "(", ")", "[", "]", "<", ">", "=", "+", "-",
        "*", "/", ",", " ", "\n", "\t", "A", "\u00e9", "\0", "((((((", "not not not ", "[[["};
    private final Random random;

    Texts(Random random) {
        this.random = random;
    }

    private String one(String... any) {
        return any[random.nextInt(any.length)];
    }

    private String gap() {
        return one("", "", " ", "\n", "  ");
    }

    /** use: l, s, w or q; open: how many marks may still be opened. */
    String sum(char use, int open) {
        StringBuilder text = new StringBuilder(product(use, open));
        for (int n = random.nextInt(3); n > 0; n--) {
            text.append(gap()).append(one("+", "-")).append(gap()).append(product(use, open));
        }
        return text.toString();
    }

    private String product(char use, int open) {
        StringBuilder text = new StringBuilder(part(use, open));
        for (int n = random.nextInt(4) / 2; n > 0; n--) {
            text.append(gap()).append(one("*", "/")).append(gap()).append(part(use, open));
        }
        return text.toString();
    }

    private String part(char use, int open) {
        int kind = random.nextInt(10);
        if (kind == 0 && open > 0) {
            return "(" + gap() + sum(use, open - 1) + gap() + ")";
        }
        if (kind == 1 && open > 0) {
            return one("min", "max") + gap() + "(" + sum(use, open - 1) + "," + gap() + sum(use, open - 1) + ")";
        }
        if (kind == 2 && open > 0 && use == 'q') {
            return one("seen", "lures") + " " + part(use, open - 1);
        }
        if (kind < 4) {
            return Integer.toString(random.nextInt(random.nextInt(8) == 0 ? 10000 : 12));
        }
        return switch (use) {
            case 'l' -> one("curious", "wool", "day", "lure", "seen", "miles", "lure", "seen");
            case 's' -> one("curious", "wool", "day", "lure", "seen");
            case 'w' -> one("curious", "wool", "day", "crimp", "led");
            default -> one("number", "at", "curious", "wool", "crimp", "led", "day");
        };
    }

    String test(char use, int open) {
        StringBuilder text = new StringBuilder(fact(use, open));
        for (int n = random.nextInt(3); n > 0; n--) {
            text.append(" ").append(one("or", "and")).append(" ").append(fact(use, open));
        }
        return text.toString();
    }

    private String fact(char use, int open) {
        int kind = random.nextInt(10);
        if (kind == 0 && open > 0) {
            return "not " + fact(use, open - 1);
        }
        if (kind == 1 && open > 0) {
            return "[" + test(use, open - 1) + gap() + "]";
        }
        if (kind == 2) {
            return "all";
        }
        return sum(use, open) + gap() + one("<", ">", "=") + gap() + sum(use, open);
    }

    /** One that the tape can hold. */
    String question() {
        String question = random.nextBoolean() ? one("first", "last", "often") + " " + test('q', 4)
                : one("total", "most", "least") + " " + sum('q', 4);
        return question.length() <= 1600 ? question : "total number";
    }

    /** At most so many fields, gaps and sheep. */
    String upland(int fields, int gaps, int sheep) {
        List<String> told = new ArrayList<>();
        int f = random.nextInt(fields) + 1;
        for (int i = 0; i < f; i++) {
            told.add("field " + (char) ('a' + i) + " lure" + " " + random.nextInt(10));
        }
        int k = f < 2 ? 0 : random.nextInt(gaps + 1);
        for (int i = 0; i < k; i++) {
            int from = random.nextInt(f);
            int to = (from + 1 + random.nextInt(f - 1)) % f;
            told.add("gap " + (char) ('a' + from) + " to " + (char) ('a' + to) + " miles " + (1 + random.nextInt(9)));
            if (random.nextInt(4) == 0) {
                told.add("shut " + i);
            }
        }
        int s = random.nextInt(sheep + 1);
        for (int i = 0; i < s; i++) {
            told.add("sheep s" + (char) ('a' + i) + " at " + (char) ('a' + random.nextInt(f)) + " curious "
                    + random.nextInt(10));
        }
        if (random.nextInt(3) > 0) {
            told.add("lures " + one("lure+curious-seen*2-miles/2", "curious*miles-seen*3+lure", sum('l', 3)));
        }
        if (random.nextInt(2) > 0) {
            told.add("stays " + one("wool>60", "seen*lure>curious*curious", test('s', 3)));
        }
        if (random.nextInt(3) > 0) {
            told.add("worth " + one("wool*3-crimp", "wool*100/(1+day)", sum('w', 3)));
        }
        if (random.nextBoolean()) {
            told.add("storm " + random.nextInt(101));
        }
        StringBuilder text = new StringBuilder();
        for (String statement : told) {
            text.append(gap()).append(statement).append(gap()).append(";");
        }
        return text.append(gap()).toString();
    }

    /** A text in which a few places have been changed. */
    String spoiled(String text) {
        return random.nextBoolean() ? spoiledAnywhere(text) : spoiledByTokens(text);
    }

    /** What stays is mostly whole words, so that the later faults have their turn. */
    private String spoiledByTokens(String text) {
        List<Grammar.Token> tokens = Grammar.tokens(text);
        StringBuilder spoiled = new StringBuilder();
        int left = 1 + random.nextInt(2);
        for (Grammar.Token token : tokens) {
            String t = token.text();
            if (left > 0 && random.nextInt(tokens.size()) < 2) {
                left--;
                t = likeOf(t);
            }
            spoiled.append(t).append(" ");
        }
        return spoiled.toString();
    }

    private String likeOf(String token) {
        if (token.matches("[0-9]+")) {
            return one("0", "9", "10", "0009", "100", "101", "9999", "(((((( 1 ))))))", "((((((( 1 )))))))");
        }
        if (token.matches("s?[a-f]")) {
            return one("a", "b", "sa", "sb", "zz", "first", "number", "curious", "abcdef", "abcdefg");
        }
        return switch (token) {
            case ";" -> one("; lures 1 ;", "; stays all ;", "; worth 1 ;", "; shut 0 ;", "; storm 3 ;", "; ; ",
                    "; field q lure 1 ; field r lure 1 ; field t lure 1 ; field u lure 1 ; field v lure 1 ;",
                    "; stays not not not [[[ all ] ] ] ;", "; stays not not not [[[ not all ] ] ] ;",
                    ";" + " storm 1 ;".repeat(56));
            case "(", "[", "not", "seen", "lures" -> (token + " ").repeat(5);
            default -> one(PIECES);
        };
    }

    private String spoiledAnywhere(String text) {
        String spoiled = text;
        for (int n = random.nextInt(3); n >= 0; n--) {
            int from = random.nextInt(spoiled.length() + 1);
            int to = Math.min(spoiled.length(), from + random.nextInt(4));
            String piece = random.nextInt(3) == 0 ? "" : one(PIECES);
            spoiled = spoiled.substring(0, from) + piece + spoiled.substring(random.nextInt(3) == 0 ? from : to);
        }
        return spoiled;
    }
}
