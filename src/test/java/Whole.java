import java.io.ByteArrayOutputStream;
import java.nio.charset.StandardCharsets;
import java.util.ArrayList;
import java.util.Arrays;
import java.util.HashMap;
import java.util.List;
import java.util.Map;

/** The document's whole face, told slowly: Model for what an upland does, Grammar for faults, the rest here. */
final class Whole {
    private final ByteArrayOutputStream tape = new ByteArrayOutputStream();
    private final int[] refused = new int[6];
    private Grammar.Fault fault = Grammar.NO_FAULT;
    private byte[] image = new byte[0];
    Model m = new Model("");

    private byte[] taken() {
        byte[] bytes = tape.toByteArray();
        tape.reset();
        return bytes;
    }

    private static String text(byte[] bytes) {
        return new String(bytes, StandardCharsets.ISO_8859_1);
    }

    private long counted(int group, long answer) {
        refused[group] += answer < 0 ? 1 : 0;
        return answer;
    }

    private long counted(int group, boolean answer) {
        refused[group] += answer ? 0 : 1;
        return answer ? 1 : 0;
    }

    private static long part(int what, long... parts) {
        return what < 0 || what >= parts.length ? -1 : parts[what];
    }

    long feed(int... numbers) {
        if (tape.size() > 1580) {
            return counted(0, -1);
        }
        for (int number : numbers) {
            tape.write(number >>> 24);
            tape.write(number >>> 16);
            tape.write(number >>> 8);
            tape.write(number);
        }
        return tape.size();
    }

    long end(int n) {
        if (n < 0 || n > tape.size()) {
            return counted(0, false);
        }
        byte[] bytes = taken();
        tape.write(bytes, 0, n);
        return 1;
    }

    long upland() {
        String text = text(taken());
        fault = Grammar.ofUpland(text);
        if (fault.kind() > 0) {
            return counted(1, -1);
        }
        long seed = m.seed;
        m = new Model(text);
        m.seed = seed;
        return m.statements;
    }

    long fault(int what) {
        return part(what, fault.kind(), fault.place());
    }

    long has(int what) {
        int open = 0;
        for (boolean o : m.now.open) {
            open += o ? 1 : 0;
        }
        return part(what, m.lures.size(), m.gaps.size(), m.now.sheep.length, m.now.day, open, m.now.purse,
                Model.allMiles(m.now), m.keptTold().size(), m.felt.size(), m.past.size());
    }

    long letter(int kind, int which, int k) {
        List<String> names = kind == 0 ? m.fieldNames : kind == 1 ? m.sheepNames : List.of();
        if (which < 0 || which >= names.size() || k < 0 || k > 5) {
            return -1;
        }
        return k < names.get(which).length() ? names.get(which).charAt(k) - 'a' + 1 : 0;
    }

    long lure(int f) {
        return m.isField(f) ? m.lures.get(f) : -1;
    }

    long gap(int k, int what) {
        if (!m.isGap(k)) {
            return -1;
        }
        Model.Gap gap = m.gaps.get(k);
        return part(what, gap.from(), gap.to(), gap.miles(), m.now.open[k] ? 1 : 0);
    }

    long sheep(int s, int what) {
        if (!m.isSheep(s)) {
            return -1;
        }
        Model.Sheep one = m.now.sheep[s];
        return part(what, one.field, one.curious, one.miles, one.crimp, one.led, m.homes.get(s));
    }

    long seen(int s, int f) {
        return m.isSheep(s) && m.isField(f) ? m.now.sheep[s].times[f] : -1;
    }

    long strays(int s) {
        return m.isSheep(s) ? m.choice(m.now, s) : -1;
    }

    long brings(int s) {
        return m.isSheep(s) ? m.worth(m.now, s) : -1;
    }

    long kept(int k, int what) {
        List<int[]> rows = m.keptTold();
        return k < 0 || k >= rows.size() ? -1 : part(what, Arrays.stream(rows.get(k)).asLongStream().toArray());
    }

    /** Rows that end alike are counted together: by field and crimp. */
    long ways(int f, int n, int crimp) {
        if (!m.isField(f) || n < 0 || n > 12 || crimp < 0 || crimp > 63) {
            return -1000000000000000L;
        }
        Map<List<Integer>, Long> ends = new HashMap<>(Map.of(List.of(f, 0), 1L));
        for (int step = 0; step < n; step++) {
            Map<List<Integer>, Long> next = new HashMap<>();
            ends.forEach((end, count) -> {
                for (int k = 0; k < m.gaps.size(); k++) {
                    int beyond = m.gaps.get(k).other(end.get(0));
                    if (m.now.open[k] && beyond >= 0) {
                        next.merge(List.of(beyond, (3 * end.get(1) + k + 1) % 64), count, Long::sum);
                    }
                }
            });
            ends = next;
        }
        return ends.entrySet().stream().filter(e -> e.getKey().get(1) == crimp).mapToLong(Map.Entry::getValue).sum();
    }

    long feel() {
        byte[] bytes = taken();
        List<int[]> rows = new ArrayList<>();
        for (int i = 0; i + 2 < bytes.length; i += 3) {
            int[] row = {bytes[i] & 255, bytes[i + 1] & 255, bytes[i + 2] & 255};
            if (row[0] > 30 || !m.isSheep(row[1]) || row[2] > 63) {
                return counted(1, -1);
            }
            rows.add(row);
        }
        if (bytes.length % 3 != 0 || rows.isEmpty() || rows.size() > 16) {
            return counted(1, -1);
        }
        m.felt = rows;
        return rows.size();
    }

    long shear(int s) {
        return counted(2, m.shear(s));
    }

    long lead(int s, int k) {
        return counted(2, m.lead(s, k));
    }

    long swing(int k, int on) {
        return counted(2, m.swing(k, on));
    }

    long tell(int s, int f, int times) {
        return counted(2, m.tell(s, f, times));
    }

    long days(int n) {
        return counted(3, m.days(n));
    }

    long chance(int n) {
        return counted(3, m.chance(n));
    }

    long undo() {
        return counted(4, m.undo());
    }

    long seed(int seed) {
        m.seed = seed < 0 ? m.seed : seed;
        return counted(5, seed >= 0);
    }

    long ask() {
        String text = text(taken());
        fault = Grammar.ofQuestion(text);
        return fault.kind() > 0 ? -1000000000000000L : m.ask(text);
    }

    long image() {
        image = m.image();
        return image.length;
    }

    long octet(int k) {
        return k < 0 || k >= image.length ? -1 : image[k] & 255;
    }

    /** Taken over as it is, then looked at: an image that can be is the one that would be written for it. */
    long on() {
        byte[] bytes = taken();
        Model.World w = m.now.copy();
        w.kept.clear();
        if (bytes.length != m.image().length || !canBe(bytes, w)) {
            return counted(5, false);
        }
        Model.World former = m.now;
        m.now = w;
        if (!Arrays.equals(m.image(), bytes)) {
            m.now = former;
            return counted(5, false);
        }
        m.past.clear();
        return 1;
    }

    private boolean canBe(byte[] bytes, Model.World w) {
        int[] b = new int[bytes.length];
        for (int i = 0; i < b.length; i++) {
            b[i] = bytes[i] & 255;
        }
        w.day = b[0] * 256 + b[1];
        w.purse = b[2] * 65536 + b[3] * 256 + b[4];
        boolean fits = w.day <= 999 && w.purse <= 99999;
        int at = 5;
        for (int k = 0; k < w.open.length; k++, at++) {
            w.open[k] = b[at] == 1;
            fits &= b[at] <= 1;
        }
        for (Model.Sheep s : w.sheep) {
            s.field = b[at];
            s.miles = b[at + 1] * 256 + b[at + 2];
            s.crimp = b[at + 3];
            s.led = b[at + 4];
            fits &= s.field < m.lures.size() && s.miles <= 999 && s.crimp <= 63 && s.led <= 1;
            at += 5;
            for (int f = 0; f < s.times.length; f++, at++) {
                s.times[f] = b[at];
                fits &= b[at] <= 99;
            }
        }
        return fits;
    }

    long status(int what) {
        return part(what, Arrays.stream(refused).asLongStream().toArray());
    }
}
