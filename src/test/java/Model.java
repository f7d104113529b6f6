import java.util.ArrayDeque;
import java.util.ArrayList;
import java.util.Arrays;
import java.util.Deque;
import java.util.HashMap;
import java.util.HashSet;
import java.util.List;
import java.util.Map;
import java.util.Set;

/** The document once more, as plainly and slowly as it can be told; random runs are held against it. */
final class Model {
    /** All sheep together are tried for every answer ahead, with nothing spared. */
    static final class World {
        int day;
        int purse;
        boolean[] open = new boolean[0];
        Sheep[] sheep = new Sheep[0];
        List<int[]> kept = new ArrayList<>();

        World copy() {
            World w = new World();
            w.day = day;
            w.purse = purse;
            w.open = open.clone();
            w.sheep = new Sheep[sheep.length];
            for (int s = 0; s < sheep.length; s++) {
                w.sheep[s] = sheep[s].copy();
            }
            w.kept = new ArrayList<>(kept);
            return w;
        }
    }

    static final class Sheep {
        int field;
        int curious;
        int miles;
        int crimp;
        int led;
        int[] times;

        Sheep copy() {
            Sheep s = new Sheep();
            s.field = field;
            s.curious = curious;
            s.miles = miles;
            s.crimp = crimp;
            s.led = led;
            s.times = times.clone();
            return s;
        }
    }

    record Gap(int from, int to, int miles) {
        int other(int field) {
            return field == from ? to : field == to ? from : -1;
        }
    }

    final List<String> fieldNames = new ArrayList<>();
    final List<Integer> lures = new ArrayList<>();
    final List<Gap> gaps = new ArrayList<>();
    final List<String> sheepNames = new ArrayList<>();
    final List<Integer> homes = new ArrayList<>();
    final Map<String, List<String>> formulas = new HashMap<>();
    int storm = 0;
    int statements = 0;
    World now = new World();
    long seed = 1;
    List<int[]> felt = new ArrayList<>();
    final Deque<World> past = new ArrayDeque<>();

    /** The text has no fault. */
    Model(String text) {
        List<String> tokens = new ArrayList<>();
        Grammar.tokens(text).forEach(t -> tokens.add(t.text()));
        formulas.put("lures", List.of("lure", "-", "seen"));
        formulas.put("stays", List.of("not", "all"));
        formulas.put("worth", List.of("wool"));
        List<Boolean> open = new ArrayList<>();
        List<Integer> curious = new ArrayList<>();
        while (!tokens.isEmpty()) {
            int end = tokens.indexOf(";");
            List<String> said = new ArrayList<>(tokens.subList(0, end));
            tokens.subList(0, end + 1).clear();
            statements++;
            switch (said.get(0)) {
                case "field" -> {
                    fieldNames.add(said.get(1));
                    lures.add(Integer.parseInt(said.get(3)));
                }
                case "gap" -> {
                    gaps.add(new Gap(fieldNames.indexOf(said.get(1)), fieldNames.indexOf(said.get(3)),
                            Integer.parseInt(said.get(5))));
                    open.add(true);
                }
                case "shut" -> open.set(Integer.parseInt(said.get(1)), false);
                case "sheep" -> {
                    sheepNames.add(said.get(1));
                    homes.add(fieldNames.indexOf(said.get(3)));
                    curious.add(Integer.parseInt(said.get(5)));
                }
                case "storm" -> storm = Integer.parseInt(said.get(1));
                default -> formulas.put(said.get(0), said.subList(1, said.size()));
            }
        }
        now.open = new boolean[gaps.size()];
        now.sheep = new Sheep[sheepNames.size()];
        for (int k = 0; k < gaps.size(); k++) {
            now.open[k] = open.get(k);
        }
        for (int s = 0; s < now.sheep.length; s++) {
            Sheep sheep = new Sheep();
            sheep.field = homes.get(s);
            sheep.curious = curious.get(s);
            sheep.times = new int[fieldNames.size()];
            sheep.times[sheep.field] = 1;
            now.sheep[s] = sheep;
        }
    }

    // ---- formulas, reckoned while they are read

    final class Reckoning {
        final List<String> tokens;
        final World world;
        final int s;
        final int gap;
        final boolean question;
        int at = 0;

        Reckoning(List<String> tokens, World world, int s, int gap, boolean question) {
            this.tokens = tokens;
            this.world = world;
            this.s = s;
            this.gap = gap;
            this.question = question;
        }

        boolean take(String... any) {
            if (at < tokens.size() && Arrays.asList(any).contains(tokens.get(at))) {
                at++;
                return true;
            }
            return false;
        }

        String before() {
            return tokens.get(at - 1);
        }

        boolean test() {
            boolean holds = both();
            while (take("or")) {
                boolean next = both();
                holds = holds || next;
            }
            return holds;
        }

        boolean both() {
            boolean holds = fact();
            while (take("and")) {
                boolean next = fact();
                holds = holds && next;
            }
            return holds;
        }

        boolean fact() {
            if (take("not")) {
                return !fact();
            }
            if (take("[")) {
                boolean holds = test();
                at++;
                return holds;
            }
            if (take("all")) {
                return true;
            }
            long left = sum();
            take("<", ">", "=");
            String sign = before();
            long right = sum();
            return sign.equals("<") ? left < right : sign.equals(">") ? left > right : left == right;
        }

        long cut(long x) {
            return Math.max(-1000000, Math.min(1000000, x));
        }

        long sum() {
            long sum = product();
            while (take("+", "-")) {
                boolean plus = before().equals("+");
                long next = product();
                sum = cut(plus ? sum + next : sum - next);
            }
            return sum;
        }

        long product() {
            long product = part();
            while (take("*", "/")) {
                boolean times = before().equals("*");
                long next = part();
                product = times ? cut(product * next) : next == 0 ? 0 : (long) Math.floor((double) product / next);
            }
            return product;
        }

        long part() {
            String t = tokens.get(at++);
            if (Character.isDigit(t.charAt(0))) {
                return Long.parseLong(t);
            }
            Sheep sheep = world.sheep[s];
            int field = gap < 0 ? sheep.field : gaps.get(gap).other(sheep.field);
            switch (t) {
                case "(": {
                    long sum = sum();
                    at++;
                    return sum;
                }
                case "min":
                case "max": {
                    at++;
                    long a = sum();
                    at++;
                    long b = sum();
                    at++;
                    return t.equals("min") ? Math.min(a, b) : Math.max(a, b);
                }
                case "curious":
                    return sheep.curious;
                case "wool":
                    return sheep.miles;
                case "day":
                    return world.day;
                case "crimp":
                    return sheep.crimp;
                case "led":
                    return sheep.led;
                case "number":
                    return s;
                case "at":
                    return sheep.field;
                case "lure":
                    return lures.get(field);
                case "miles":
                    return gaps.get(gap).miles();
                case "seen": {
                    if (!question) {
                        return sheep.times[field];
                    }
                    long which = part();
                    return which < 0 || which >= sheep.times.length ? 0 : sheep.times[(int) which];
                }
                case "lures": {
                    long which = part();
                    return leads(world, s, which) ? pull(world, s, (int) which) : 0;
                }
                default:
                    throw new IllegalStateException(t);
            }
        }
    }

    boolean leads(World w, int s, long gap) {
        return gap >= 0 && gap < gaps.size() && w.open[(int) gap] && gaps.get((int) gap).other(w.sheep[s].field) >= 0;
    }

    long pull(World w, int s, int gap) {
        return new Reckoning(formulas.get("lures"), w, s, gap, false).sum();
    }

    int worth(World w, int s) {
        long worth = new Reckoning(formulas.get("worth"), w, s, -1, false).sum();
        return (int) Math.max(0, Math.min(9999, worth));
    }

    int choice(World w, int s) {
        if (new Reckoning(formulas.get("stays"), w, s, -1, false).test()) {
            return -1;
        }
        int best = -1;
        long most = 0;
        for (int k = 0; k < gaps.size(); k++) {
            if (leads(w, s, k) && pull(w, s, k) > most) {
                most = pull(w, s, k);
                best = k;
            }
        }
        return best;
    }

    void pass(World w, int s, int k) {
        Sheep sheep = w.sheep[s];
        sheep.field = gaps.get(k).other(sheep.field);
        sheep.times[sheep.field] = Math.min(99, sheep.times[sheep.field] + 1);
        sheep.miles = Math.min(999, sheep.miles + gaps.get(k).miles());
        sheep.crimp = (3 * sheep.crimp + k + 1) % 64;
    }

    int passDay(World w) {
        int strayed = 0;
        for (int s = 0; s < w.sheep.length; s++) {
            int k = choice(w, s);
            if (k >= 0) {
                pass(w, s, k);
                w.kept.add(new int[] {w.day, s, k, w.sheep[s].miles});
                strayed++;
            }
        }
        w.day++;
        return strayed;
    }

    World ahead(World from, int n) {
        World w = from.copy();
        for (int d = 0; d < n; d++) {
            passDay(w);
        }
        return w;
    }

    World changed(int bits) {
        World w = now.copy();
        for (int k = 0; k < gaps.size(); k++) {
            w.open[k] ^= (bits >> k & 1) == 1;
        }
        return w;
    }

    boolean comes(int n, int least, int most) {
        return n >= least && n <= most && now.day + n <= 999;
    }

    boolean isSheep(int s) {
        return s >= 0 && s < now.sheep.length;
    }

    boolean isField(int f) {
        return f >= 0 && f < lures.size();
    }

    boolean isGap(int k) {
        return k >= 0 && k < gaps.size();
    }

    // ---- answers

    List<int[]> keptTold() {
        return now.kept.subList(Math.max(0, now.kept.size() - 40), now.kept.size());
    }

    int later(int s, int n, int what) {
        if (!isSheep(s) || !comes(n, 0, 60) || what < 0 || what > 2) {
            return -1;
        }
        Sheep sheep = ahead(now, n).sheep[s];
        return new int[] {sheep.field, sheep.miles, sheep.crimp}[what];
    }

    int home(int s) {
        for (int d = 1; isSheep(s) && d <= 60 && now.day + d <= 999; d++) {
            if (ahead(now, d).sheep[s].field == homes.get(s)) {
                return d;
            }
        }
        return -1;
    }

    int gaps(int s, int f, int n) {
        if (!isSheep(s) || !isField(f) || !comes(n, 0, 20)) {
            return -1;
        }
        int best = -1;
        for (int bits = 0; bits < 1 << gaps.size(); bits++) {
            boolean fewer = best < 0 || Integer.bitCount(bits) < Integer.bitCount(best);
            if (fewer && ahead(changed(bits), n).sheep[s].field == f) {
                best = bits;
            }
        }
        return best;
    }

    static int allMiles(World w) {
        return Arrays.stream(w.sheep).mapToInt(s -> s.miles).sum();
    }

    int rumour(int n, int what) {
        if (!comes(n, 1, 40) || what < 0 || what > 1) {
            return -1;
        }
        int best = -1;
        int most = allMiles(ahead(now, n));
        for (int k = 0; k < gaps.size(); k++) {
            int miles = allMiles(ahead(changed(1 << k), n));
            if (miles > most) {
                most = miles;
                best = k;
            }
        }
        return what == 0 ? best : most;
    }

    int way(int from, int to) {
        if (!isField(from) || !isField(to)) {
            return -1;
        }
        return wayBy(from, to, new HashSet<>());
    }

    private int wayBy(int from, int to, Set<Integer> been) {
        if (from == to) {
            return 0;
        }
        been.add(from);
        int best = -1;
        for (int k = 0; k < gaps.size(); k++) {
            int other = gaps.get(k).other(from);
            if (now.open[k] && other >= 0 && !been.contains(other)) {
                int rest = wayBy(other, to, been);
                if (rest >= 0 && (best < 0 || rest + gaps.get(k).miles() < best)) {
                    best = rest + gaps.get(k).miles();
                }
            }
        }
        been.remove(from);
        return best;
    }

    int waits(int s, int n, int what) {
        if (!isSheep(s) || !comes(n, 0, 60) || what < 0 || what > 1) {
            return -1;
        }
        int best = 0;
        for (int d = 1; d <= n; d++) {
            if (worth(ahead(now, d), s) > worth(ahead(now, best), s)) {
                best = d;
            }
        }
        return what == 0 ? best : worth(ahead(now, best), s);
    }

    int coat(int n) {
        if (n < 1 || n > 9999) {
            return -1;
        }
        long least = Long.MAX_VALUE;
        for (int bits = 0; bits < 1 << now.sheep.length; bits++) {
            int miles = 0;
            for (int s = 0; s < now.sheep.length; s++) {
                miles += (bits >> s & 1) * now.sheep[s].miles;
            }
            if (miles >= n) {
                least = Math.min(least, (Integer.bitCount(bits) * 100000L + miles) * 100 + bits);
            }
        }
        return least == Long.MAX_VALUE ? -1 : (int) (least % 100);
    }

    int watch(int n) {
        if (!comes(n, 0, 60)) {
            return -1;
        }
        World w = ahead(now, n);
        int best = -1;
        for (int bits = 0; bits < 1 << lures.size(); bits++) {
            boolean all = true;
            for (Sheep s : w.sheep) {
                boolean one = (bits >> s.field & 1) == 1;
                for (int k = 0; k < gaps.size(); k++) {
                    int other = gaps.get(k).other(s.field);
                    one |= w.open[k] && other >= 0 && (bits >> other & 1) == 1;
                }
                all &= one;
            }
            if (all && (best < 0 || Integer.bitCount(bits) < Integer.bitCount(best))) {
                best = bits;
            }
        }
        return best;
    }

    /** Row by row, so only for few gaps. */
    long ways(int f, int n, int crimp, int start) {
        if (n == 0) {
            return start == crimp ? 1 : 0;
        }
        long ways = 0;
        for (int k = 0; k < gaps.size(); k++) {
            int other = gaps.get(k).other(f);
            if (now.open[k] && other >= 0) {
                ways += ways(other, n - 1, crimp, (3 * start + k + 1) % 64);
            }
        }
        return ways;
    }

    int curious(int s) {
        if (!isSheep(s)) {
            return -1;
        }
        int bits = 0;
        for (int c = 0; c < 10; c++) {
            World w = now.copy();
            w.sheep[s].curious = c;
            boolean all = true;
            for (int[] row : felt) {
                all &= now.day + row[0] <= 999 && ahead(w, row[0]).sheep[row[1]].crimp == row[2];
            }
            bits |= all ? 1 << c : 0;
        }
        return bits;
    }

    int tells(int s, int what) {
        int bits = curious(s);
        if (bits <= 0 || what < 0 || what > 2) {
            return -1;
        }
        int[] best = {-1, -1, -1};
        for (int d = 1; d <= 30 && now.day + d <= 999; d++) {
            for (int t = 0; t < now.sheep.length; t++) {
                int[] count = new int[64];
                for (int c = 0; c < 10; c++) {
                    if ((bits >> c & 1) == 1) {
                        World w = now.copy();
                        w.sheep[s].curious = c;
                        count[ahead(w, d).sheep[t].crimp]++;
                    }
                }
                int most = Arrays.stream(count).max().getAsInt();
                if (best[2] < 0 || most < best[2]) {
                    best = new int[] {d, t, most};
                }
            }
        }
        return best[what];
    }

    /** The text has no fault. */
    long ask(String text) {
        List<String> tokens = new ArrayList<>();
        Grammar.tokens(text).forEach(t -> tokens.add(t.text()));
        String verb = tokens.remove(0);
        List<Long> values = new ArrayList<>();
        for (int s = 0; s < now.sheep.length; s++) {
            Reckoning r = new Reckoning(tokens, now, s, -1, true);
            boolean test = verb.equals("first") || verb.equals("last") || verb.equals("often");
            values.add(test ? (r.test() ? 1L : 0L) : r.sum());
        }
        return switch (verb) {
            case "first" -> values.indexOf(1L);
            case "last" -> values.lastIndexOf(1L);
            case "most" -> values.stream().mapToLong(v -> v).max().orElse(0);
            case "least" -> values.stream().mapToLong(v -> v).min().orElse(0);
            default -> values.stream().mapToLong(v -> v).sum();
        };
    }

    // ---- acts

    void remember() {
        past.addLast(now.copy());
        if (past.size() > 20) {
            past.removeFirst();
        }
    }

    int shear(int s) {
        if (!isSheep(s) || now.sheep[s].miles == 0) {
            return -1;
        }
        remember();
        int worth = worth(now, s);
        now.purse = Math.min(99999, now.purse + worth);
        now.sheep[s].miles = 0;
        now.sheep[s].crimp = 0;
        now.sheep[s].led = 0;
        return worth;
    }

    boolean lead(int s, int k) {
        if (!isSheep(s) || !leads(now, s, k)) {
            return false;
        }
        remember();
        pass(now, s, k);
        now.sheep[s].led = 1;
        return true;
    }

    boolean swing(int k, int on) {
        if (!isGap(k) || on < 0 || on > 1 || now.open[k] == (on == 1)) {
            return false;
        }
        remember();
        now.open[k] = on == 1;
        return true;
    }

    boolean tell(int s, int f, int times) {
        if (!isSheep(s) || !isField(f) || times < 0 || times > 99 || now.sheep[s].times[f] == times) {
            return false;
        }
        remember();
        now.sheep[s].times[f] = times;
        return true;
    }

    int days(int n) {
        if (!comes(n, 1, 100)) {
            return -1;
        }
        remember();
        int strayed = 0;
        for (int d = 0; d < n; d++) {
            strayed += passDay(now);
        }
        return strayed;
    }

    int draw(int m) {
        seed = (1103515245L * seed + 12345L) % (1L << 31);
        return (int) (seed / 64 % m);
    }

    int chance(int n) {
        if (!comes(n, 1, 100)) {
            return -1;
        }
        remember();
        int storms = 0;
        for (int d = 0; d < n; d++) {
            if (draw(100) < storm && !gaps.isEmpty()) {
                int k = draw(gaps.size());
                now.open[k] = !now.open[k];
                storms++;
            }
            passDay(now);
        }
        return storms;
    }

    boolean undo() {
        if (past.isEmpty()) {
            return false;
        }
        now = past.removeLast();
        return true;
    }

    byte[] image() {
        List<Integer> bytes = new ArrayList<>(List.of(now.day / 256, now.day % 256,
                now.purse / 65536, now.purse / 256 % 256, now.purse % 256));
        for (boolean open : now.open) {
            bytes.add(open ? 1 : 0);
        }
        for (Sheep s : now.sheep) {
            bytes.addAll(List.of(s.field, s.miles / 256, s.miles % 256, s.crimp, s.led));
            Arrays.stream(s.times).forEach(bytes::add);
        }
        bytes.add(0);
        return Due.sealed(Due.bytes(bytes.stream().mapToInt(b -> b).toArray()));
    }
}
