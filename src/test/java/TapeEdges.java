import java.util.function.Consumer;

/** Edges of promises 1, 2, 3, 39: a new object, the tape, what is refused. */
final class TapeEdges {
    private TapeEdges() {
    }

    static void run() {
        newObject();
        lastCall();
        order();
        full();
        longest();
        ended();
        refused();
        notRefused();
        statusOfOthers();
    }

    private static void newObject() {
        Edge e = Edge.of(1, "No fields, no sheep.");
        StrayWool x = new StrayWool();
        for (int what = 0; what < 10; what++) {
            e.is("has " + what, x.has(what), 0);
        }
        for (int n = -1; n <= 1; n++) {
            e.is("lure " + n, x.lure(n), -1);
            e.is("sheep " + n, x.sheep(n, 0), -1);
            e.is("gap " + n, x.gap(n, 0), -1);
            e.is("letter of a field " + n, x.letter(0, n, 0), -1);
            e.is("letter of a sheep " + n, x.letter(1, n, 0), -1);
        }
        e.is("the first field is then there", Due.upland(x, "field a lure 3;"), 1);
        e.is("lure 0", x.lure(0), 3);
    }

    private static void lastCall() {
        Edge e = Edge.of(1, "An object is used for at most 512 calls after it has been made; what later calls answer"
                + " is free.");
        StrayWool x = Due.land("field a lure 1;field b lure 1;gap a to b miles 1;sheep s at a curious 0;lures 1;");
        // The tape took six calls, upland() one.
        for (int call = 8; call <= 510; call++) {
            e.is("days(1), call " + call, x.days(1), 1);
        }
        e.is("call 511", x.sheep(0, 2), 503);
        e.is("call 512", x.has(3), 503);
    }

    private static void order() {
        Edge e = Edge.of(2, "Twenty bytes come behind those on the tape, of each number the highest first");
        StrayWool x = new StrayWool();
        // Day 999, purse 99999 of an upland without anything: bytes above 127 are as good as those below.
        byte[] image = Due.sealed(Due.bytes(3, 231, 1, 134, 159, 0));
        x.feed(0x03e70186, 0x9f000000 | (image[5] & 255) << 16, 0, 0, 0);
        x.end(6);
        e.is("on()", x.on(), true);
        e.is("day", x.has(3), 999);
        e.is("purse", x.has(5), 99999);
        // "field abcdef lure 7;": the four bytes of each number, the numbers one behind another.
        e.is("the first twenty", x.feed(0x6669656c, 0x64206162, 0x63646566, 0x206c7572, 0x6520373b), 20);
        e.is("the next twenty", x.feed(0x6669656c, 0x64207061, 0x73642020, 0x206c7572, 0x6520383b), 40);
        e.is("all forty", x.upland(), 2);
        for (int k = 0; k < 6; k++) {
            e.is("letter " + k, x.letter(0, 0, k), k + 1);
        }
        e.is("lure of the first", x.lure(0), 7);
        e.is("lure of the next", x.lure(1), 8);
    }

    private static int fedBehind(StrayWool x, int length) {
        x.end(0);
        for (int n = 0; n < 80; n++) {
            x.feed(0x20202020, 0x20202020, 0x20202020, 0x20202020, 0x20202020);
        }
        x.end(length);
        return x.feed(0, 0, 0, 0, 0);
    }

    private static void full() {
        Edge e = Edge.of(2, "how many there are; NONE, refused (0), if there would be more than 1600.");
        StrayWool x = new StrayWool();
        e.is("behind none", fedBehind(x, 0), 20);
        e.is("behind 1", fedBehind(x, 1), 21);
        e.is("behind 1579", fedBehind(x, 1579), 1599);
        e.is("behind 1580", fedBehind(x, 1580), 1600);
        e.is("nothing refused", x.status(0), 0);
        e.is("behind 1581", fedBehind(x, 1581), -1);
        e.is("behind 1600", fedBehind(x, 1600), -1);
        e.is("refused", x.status(0), 2);
        fedBehind(x, 1581);
        e.is("what is refused leaves no bytes", x.end(1582), false);
        e.is("and takes none", x.end(1581), true);
        e.is("blanks alone are still there", x.upland(), 0);
    }

    /** Each text uses what the one ahead of it used, so they come several times. */
    private static void longest() {
        Edge e = Edge.of(2, "if there would be more than 1600");
        String land = "field a lure 1;sheep s at a curious 0;";
        String text = land + "worth 1" + "+1".repeat(776) + " ;";
        StrayWool uplands = new StrayWool();
        StrayWool questions = Due.land(land);
        for (int n = 0; n < 4; n++) {
            e.is("an upland of " + text.length(), Due.upland(uplands, text), 3);
            e.is("all of it is reckoned", uplands.brings(0), 777);
            String question = "total" + " ".repeat(1 + n % 2) + "1" + "+1".repeat(796);
            e.is("a question of " + question.length(), Due.ask(questions, question), 797);
        }
        String blank = " ".repeat(1591);
        e.is("a word to the last byte", Due.ask(questions, "total" + blank + " day"), 0);
        e.is("a number to the last byte", Due.ask(questions, "total" + blank + "1234"), 1234);
        StrayWool cut = new StrayWool();
        e.is("a word that the tape's end cuts", Due.ask(cut, "total" + blank + "  da"), StrayWool.NOTHING);
        e.is("its place", cut.fault(1), 1598);
        e.is("a number that the tape's end cuts", Due.upland(cut, "storm" + blank + " 100"), -1);
        e.is("its place", cut.fault(1), 1600);
        e.is("the longest upland", text.length(), 1599);
        e.is("one with a blank more", Due.upland(uplands, text + "\n"), 3);
    }

    private static void ended() {
        Edge e = Edge.of(3, "The tape has its first n bytes alone: true; false, refused (0), if it has not so many,"
                + " or n is below 0.");
        for (int length : new int[] {0, 20, 1600}) {
            for (int n : new int[] {Integer.MIN_VALUE, -1, 0, 1, 19, 20, 21, 1599, 1600, 1601, Integer.MAX_VALUE}) {
                StrayWool x = new StrayWool();
                for (int fed = 0; fed < length; fed += 20) {
                    x.feed(0x20202020, 0x20202020, 0x20202020, 0x20202020, 0x20202020);
                }
                boolean due = n >= 0 && n <= length;
                e.is("end(" + n + ") of " + length, x.end(n), due);
                e.is("refused end(" + n + ") of " + length, x.status(0), due ? 0 : 1);
                int left = due ? n : length;
                e.is("one more than is left", x.end(left + 1), false);
                e.is("all that is left", x.end(left), true);
            }
        }
        StrayWool x = new StrayWool();
        Due.tape(x, Due.bytes("storm 1;storm 2;storm 3;"));
        x.end(16);
        e.is("the first two alone", x.upland(), 2);
        // What went is not read, though a word or a number would go on with it.
        StrayWool sheep = Due.land("field a lure 1;sheep s at a curious 4;");
        Due.tape(sheep, Due.bytes("total 123"));
        sheep.end(7);
        e.is("1 of 123", sheep.ask(), 1);
        Due.tape(sheep, Due.bytes("total curiously"));
        sheep.end(13);
        e.is("curious of curiously", sheep.ask(), 4);
        Due.tape(sheep, Due.bytes("total curious"));
        sheep.end(12);
        e.is("curiou", sheep.ask(), StrayWool.NOTHING);
    }

    private static void refuses(int group, String call, Consumer<StrayWool> one) {
        Edge e = Edge.of(39, "How many were refused: 0 feed(), end(); 1 upland(), feel(); 2 shear(), lead(), swing(),"
                + " tell();"
                + " 3 days(), chance(); 4 undo(); 5 seed(), on().");
        StrayWool x = Due.land(Lands.HILLS);
        for (int n = 1; n <= 3; n++) {
            one.accept(x);
            for (int what = 0; what < 6; what++) {
                e.is(call + " for the time " + n + ", status " + what, x.status(what), what == group ? n : 0);
            }
        }
    }

    private static void refused() {
        refuses(0, "end", x -> x.end(-1));
        refuses(1, "upland", x -> Due.upland(x, "?"));
        refuses(1, "feel", x -> x.feel());
        refuses(2, "shear", x -> x.shear(0));
        refuses(2, "lead", x -> x.lead(0, 1));
        refuses(2, "swing", x -> x.swing(0, 1));
        refuses(2, "tell", x -> x.tell(0, 0, 1));
        refuses(3, "days", x -> x.days(0));
        refuses(3, "chance", x -> x.chance(0));
        refuses(4, "undo", x -> x.undo());
        refuses(5, "seed", x -> x.seed(-1));
        refuses(5, "on", x -> x.on());
        Edge e = Edge.of(39, "0 feed(), end()");
        StrayWool x = new StrayWool();
        fedBehind(x, 1600);
        fedBehind(x, 1600);
        x.end(1601);
        e.is("feed() twice, end() once", x.status(0), 3);
    }

    /** What is answered NONE without being refused counts nowhere, nor does what is done. */
    private static void notRefused() {
        Edge e = Edge.of(39, "How many were refused");
        StrayWool x = Due.land(Lands.HILLS);
        x.days(1);
        x.shear(0);
        x.lead(0, 0);
        x.swing(0, 0);
        x.tell(0, 0, 50);
        x.chance(1);
        x.undo();
        x.seed(0);
        Due.feel(x, 1, 0, 1);
        Due.on(x, Due.image(x));
        Due.ask(x, "?");
        x.fault(2);
        x.has(10);
        x.letter(0, 0, 6);
        x.lure(3);
        x.gap(3, 0);
        x.sheep(2, 0);
        x.seen(2, 0);
        x.strays(2);
        x.brings(2);
        x.kept(40, 0);
        x.later(0, 61, 0);
        x.home(2);
        x.gaps(0, 0, 21);
        x.rumour(0, 0);
        x.way(0, 3);
        x.waits(0, 61, 0);
        x.coat(0);
        x.watch(61);
        x.ways(0, 13, 0);
        x.curious(2);
        x.tells(2, 0);
        x.octet(-1);
        x.status(6);
        for (int what = 0; what < 6; what++) {
            e.is("status " + what, x.status(what), 0);
        }
        x.end(-1);
        x.days(0);
        Due.upland(x, "");
        e.is("an upland leaves 0", x.status(0), 1);
        e.is("an upland leaves 3", x.status(3), 1);
    }

    private static void statusOfOthers() {
        Edge e = Edge.of(39, "NONE for others.");
        StrayWool x = new StrayWool();
        int[] whats = {Integer.MIN_VALUE, -1, 0, 5, 6, Integer.MAX_VALUE};
        int[] want = {-1, -1, 0, 0, -1, -1};
        for (int i = 0; i < whats.length; i++) {
            e.is("status " + whats[i], x.status(whats[i]), want[i]);
        }
    }
}
