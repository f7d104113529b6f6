import java.util.ArrayList;
import java.util.LinkedHashSet;
import java.util.List;
import java.util.Set;
import java.util.regex.Matcher;
import java.util.regex.Pattern;

/**
 * The faults of texts, found in another way than the program does: the document's rules are kept as rules, and
 * all derivations are followed at once (Earley), so that the first token with which none goes on is the fault.
 */
final class Grammar {
    static final Set<String> OWN = Set.of("field", "lure", "gap", "to", "miles", "shut", "sheep", "at", "curious",
            "lures", "stays", "worth", "storm", "wool", "day", "seen", "crimp", "led", "number", "or", "and", "not",
            "all", "min", "max");
    private static final Pattern TOKEN = Pattern.compile("[a-z]+|[0-9]+|[^ \n]");

    record Token(String text, int at, boolean glued) {
    }

    record Item(String left, List<String> right, int dot, int origin) {
        String wanted() {
            return dot < right.size() ? right.get(dot) : null;
        }
    }

    record Fault(int kind, int place) {
    }

    static final Fault NO_FAULT = new Fault(0, -1);

    static List<Token> tokens(String text) {
        List<Token> tokens = new ArrayList<>();
        Matcher m = TOKEN.matcher(text);
        int behind = -1;
        while (m.find()) {
            boolean glued = m.start() == behind && plain(text.charAt(m.start())) && plain(text.charAt(m.start() - 1));
            tokens.add(new Token(m.group(), m.start(), glued));
            behind = m.end();
        }
        return tokens;
    }

    private static boolean plain(char c) {
        return c >= 'a' && c <= 'z' || c >= '0' && c <= '9';
    }

    private final String text;
    private final int most;
    private final List<Set<Item>> sets = new ArrayList<>();

    /** most: how many marks may be open at once. */
    private Grammar(String text, String start, int most) {
        this.text = text;
        this.most = most;
        Set<Item> first = new LinkedHashSet<>();
        first.add(new Item("START", List.of(start), 0, 0));
        sets.add(first);
        close(0);
    }

    private Set<Item> last() {
        return sets.get(sets.size() - 1);
    }

    private void close(int i) {
        List<Item> todo = new ArrayList<>(sets.get(i));
        for (int k = 0; k < todo.size(); k++) {
            Item item = todo.get(k);
            List<Item> fresh = new ArrayList<>();
            if (item.wanted() == null) {
                for (Item open : List.copyOf(sets.get(item.origin()))) {
                    if (item.left().equals(open.wanted())) {
                        fresh.add(new Item(open.left(), open.right(), open.dot() + 1, open.origin()));
                    }
                }
            } else if (item.wanted().startsWith("<")) {
                for (List<String> right : rules(item.wanted())) {
                    fresh.add(new Item(item.wanted(), right, 0, i));
                }
            }
            for (Item f : fresh) {
                if (sets.get(i).add(f)) {
                    todo.add(f);
                }
            }
        }
    }

    private static List<String> row(String... right) {
        return List.of(right);
    }

    /** Nonterminals are <KIND use open>. */
    private List<List<String>> rules(String left) {
        List<List<String>> rules = new ArrayList<>();
        String[] parts = left.substring(1, left.length() - 1).split(" ");
        if (parts[0].equals("UPLAND")) {
            rules.add(row("<STATEMENT>", ";"));
            rules.add(row("<UPLAND>", "<STATEMENT>", ";"));
            return rules;
        }
        if (parts[0].equals("STATEMENT")) {
            rules.add(row("field", "NAME", "lure", "N"));
            rules.add(row("gap", "NAME", "to", "NAME", "miles", "N"));
            rules.add(row("shut", "N"));
            rules.add(row("sheep", "NAME", "at", "NAME", "curious", "N"));
            rules.add(row("lures", "<SUM l 0>"));
            rules.add(row("stays", "<TEST s 0>"));
            rules.add(row("worth", "<SUM w 0>"));
            rules.add(row("storm", "N"));
            return rules;
        }
        if (parts[0].equals("QUESTION")) {
            for (String word : row("first", "last", "often")) {
                rules.add(row(word, "<TEST q 0>"));
            }
            for (String word : row("total", "most", "least")) {
                rules.add(row(word, "<SUM q 0>"));
            }
            return rules;
        }
        String u = parts[1];
        int open = Integer.parseInt(parts[2]);
        String in = " " + u + " " + open + ">";
        String deeper = " " + u + " " + (open + 1) + ">";
        boolean more = open < most;
        switch (parts[0]) {
            case "TEST" -> {
                rules.add(row("<BOTH" + in));
                rules.add(row("<TEST" + in, "or", "<BOTH" + in));
            }
            case "BOTH" -> {
                rules.add(row("<FACT" + in));
                rules.add(row("<BOTH" + in, "and", "<FACT" + in));
            }
            case "FACT" -> {
                if (more) {
                    rules.add(row("not", "<FACT" + deeper));
                    rules.add(row("[", "<TEST" + deeper, "]"));
                }
                rules.add(row("all"));
                for (String sign : row("<", ">", "=")) {
                    rules.add(row("<SUM" + in, "SIGN" + sign, "<SUM" + in));
                }
            }
            case "SUM" -> {
                rules.add(row("<PRODUCT" + in));
                rules.add(row("<SUM" + in, "+", "<PRODUCT" + in));
                rules.add(row("<SUM" + in, "-", "<PRODUCT" + in));
            }
            case "PRODUCT" -> {
                rules.add(row("<PART" + in));
                rules.add(row("<PRODUCT" + in, "*", "<PART" + in));
                rules.add(row("<PRODUCT" + in, "/", "<PART" + in));
            }
            default -> partRules(rules, u, in, deeper, more);
        }
        return rules;
    }

    private static void partRules(List<List<String>> rules, String u, String in, String deeper, boolean more) {
        for (String word : row("N", "curious", "wool", "day")) {
            rules.add(row(word));
        }
        if (more) {
            rules.add(row("(", "<SUM" + deeper, ")"));
        }
        // Without the deeper rules min and max still stand ahead of the mark that is one too many.
        String inner = more ? "(" : "NEVER";
        rules.add(row("min", inner, "<SUM" + deeper, ",", "<SUM" + deeper, ")"));
        rules.add(row("max", inner, "<SUM" + deeper, ",", "<SUM" + deeper, ")"));
        switch (u) {
            case "l" -> {
                rules.add(row("lure"));
                rules.add(row("seen"));
                rules.add(row("miles"));
            }
            case "s" -> {
                rules.add(row("lure"));
                rules.add(row("seen"));
            }
            case "w" -> {
                rules.add(row("crimp"));
                rules.add(row("led"));
            }
            default -> {
                for (String word : row("number", "at", "crimp", "led")) {
                    rules.add(row(word));
                }
                if (more) {
                    rules.add(row("seen", "<PART" + deeper));
                    rules.add(row("lures", "<PART" + deeper));
                }
            }
        }
    }

    private static boolean matches(String wanted, Token token) {
        if (token.glued()) {
            return false;
        }
        String t = token.text();
        return switch (wanted) {
            case "NAME" -> t.matches("[a-z]{1,6}") && !OWN.contains(t);
            case "N" -> t.matches("[0-9]{1,4}");
            case "SIGN<", "SIGN>", "SIGN=" -> t.equals(wanted.substring(4));
            default -> t.equals(wanted);
        };
    }

    private boolean wants(String terminal) {
        return last().stream().anyMatch(item -> terminal.equals(item.wanted()));
    }

    private boolean isWhole() {
        return last().stream().anyMatch(item -> item.left().equals("START") && item.wanted() == null);
    }

    private boolean goesOn(Token token) {
        return last().stream().anyMatch(item -> item.wanted() != null && matches(item.wanted(), token));
    }

    private void take(Token token) {
        Set<Item> next = new LinkedHashSet<>();
        for (Item item : last()) {
            if (item.wanted() != null && matches(item.wanted(), token)) {
                next.add(new Item(item.left(), item.right(), item.dot() + 1, item.origin()));
            }
        }
        sets.add(next);
        close(sets.size() - 1);
    }

    /** Fault 1 or 4 of a token with which the text does not go on. */
    private Fault stop(Token token, Grammar deeper) {
        if (deeper.goesOn(token)) {
            return new Fault(4, token.at());
        }
        if (!token.glued() && wants("NAME") && token.text().matches("[a-z]{7,}") && !OWN.contains(token.text())) {
            return new Fault(1, token.at() + 6);
        }
        if (!token.glued() && wants("N") && token.text().matches("[0-9]{5,}")) {
            return new Fault(1, token.at() + 4);
        }
        return new Fault(1, token.at());
    }

    static Fault ofQuestion(String text) {
        Grammar six = new Grammar(text, "<QUESTION>", 6);
        Grammar seven = new Grammar(text, "<QUESTION>", 7);
        for (Token token : tokens(text)) {
            if (!six.goesOn(token)) {
                return six.stop(token, seven);
            }
            six.take(token);
            seven.take(token);
        }
        return six.isWhole() ? NO_FAULT : new Fault(1, text.length());
    }

    static Fault ofUpland(String text) {
        List<Token> tokens = tokens(text);
        Statements told = new Statements();
        Grammar six = null;
        Grammar seven = null;
        for (Token token : tokens) {
            if (six == null) {
                six = new Grammar(text, "<UPLAND>", 6);
                seven = new Grammar(text, "<UPLAND>", 7);
            }
            Fault many = told.tooMany(token);
            if (many != NO_FAULT) {
                return many;
            }
            if (!six.goesOn(token)) {
                return six.stop(token, seven);
            }
            six.take(token);
            seven.take(token);
            Fault wrong = told.next(token);
            if (wrong != NO_FAULT) {
                return wrong;
            }
            if (token.text().equals(";")) {
                // Statements stand for themselves: the rules begin anew, which keeps the sets small.
                six = null;
            }
        }
        return six == null ? NO_FAULT : new Fault(1, text.length());
    }

    /** What statements may not do, token by token: faults 2, 3, 5. */
    private static final class Statements {
        int count = 0;
        final List<String> said = new ArrayList<>();
        final List<String> fields = new ArrayList<>();
        final List<String> sheep = new ArrayList<>();
        final List<Boolean> open = new ArrayList<>();
        final List<String> formulas = new ArrayList<>();

        Fault tooMany(Token token) {
            return said.isEmpty() && count == 60 ? new Fault(5, token.at()) : NO_FAULT;
        }

        Fault next(Token token) {
            String t = token.text();
            if (t.equals(";")) {
                tell();
                said.clear();
                count++;
                return NO_FAULT;
            }
            said.add(t);
            int k = said.size() - 1;
            if (k == 0) {
                boolean full = t.equals("field") && fields.size() == 8 || t.equals("gap") && open.size() == 10
                        || t.equals("sheep") && sheep.size() == 6 || formulas.contains(t);
                return full ? new Fault(5, token.at()) : NO_FAULT;
            }
            String role = said.get(0) + k;
            boolean there = fields.contains(t) || sheep.contains(t);
            return switch (role) {
                case "field1", "sheep1" -> there ? new Fault(3, token.at()) : NO_FAULT;
                case "gap1", "sheep3" -> fields.contains(t) ? NO_FAULT : new Fault(3, token.at());
                case "gap3" -> fields.contains(t) && !said.get(1).equals(t) ? NO_FAULT : new Fault(3, token.at());
                case "field3", "sheep5" -> within(token, 0, 9);
                case "gap5" -> within(token, 1, 9);
                case "storm1" -> within(token, 0, 100);
                case "shut1" -> {
                    int gap = Integer.parseInt(t);
                    yield gap < open.size() && open.get(gap) ? NO_FAULT : new Fault(2, token.at());
                }
                default -> NO_FAULT;
            };
        }

        private static Fault within(Token token, int least, int most) {
            int n = Integer.parseInt(token.text());
            return n >= least && n <= most ? NO_FAULT : new Fault(2, token.at());
        }

        private void tell() {
            switch (said.get(0)) {
                case "field" -> fields.add(said.get(1));
                case "sheep" -> sheep.add(said.get(1));
                case "gap" -> open.add(true);
                case "shut" -> open.set(Integer.parseInt(said.get(1)), false);
                case "lures", "stays", "worth" -> formulas.add(said.get(0));
                default -> {
                }
            }
        }
    }
}
