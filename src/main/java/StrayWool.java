import java.util.Arrays;

/** An upland of fields, gaps and sheep that stray through them, their wool priced by how far it wandered. */
public final class StrayWool {
    public static final int NONE = -1;
    public static final long NOTHING = -1000000000000000L;

    private static final int MAX_TAPE = 1600;
    private static final int FED_BYTES = 20;
    private static final int MAX_STATEMENTS = 60;
    private static final int MAX_FIELDS = 8;
    private static final int MAX_GAPS = 10;
    private static final int MAX_SHEEP = 6;
    private static final int MAX_DAY = 999;
    private static final int MAX_MILES = 999;
    private static final int MAX_TIMES = 99;
    private static final int MAX_PURSE = 99999;
    private static final int MAX_WORTH = 9999;
    private static final int MAX_STORM = 100;
    private static final int MAX_DIGIT = 9;
    private static final int MAX_NUMBER = 9999;
    private static final int MAX_NAME = 6;
    private static final int LETTER_BITS = 5;
    private static final int CRIMPS = 64;
    private static final int CURIOSITIES = 10;
    private static final int MAX_KEPT = 40;
    private static final int MAX_ACTS = 20;
    private static final int MAX_DAYS = 100;
    private static final int MAX_AHEAD = 60;
    private static final int MAX_GAPS_AHEAD = 20;
    private static final int MAX_RUMOUR_AHEAD = 40;
    private static final int MAX_FELT_AHEAD = 30;
    private static final int MAX_FELT = 16;
    private static final int FELT_PARTS = 3;
    private static final int MAX_WAY_GAPS = 12;
    private static final int MAX_COAT = 9999;
    private static final int SUM_LIMIT = 1000000;
    private static final int MAX_OPEN_MARKS = 6;
    private static final int MAX_IMAGE = 94;
    private static final int GROUPS_REFUSED = 6;

    private static final int REFUSED_TAPE = 0;
    private static final int REFUSED_TEXT = 1;
    private static final int REFUSED_ACT = 2;
    private static final int REFUSED_DAYS = 3;
    private static final int REFUSED_UNDO = 4;
    private static final int REFUSED_STATE = 5;

    private static final int FAULT_TEXT = 1;
    private static final int FAULT_NUMBER = 2;
    private static final int FAULT_NAME = 3;
    private static final int FAULT_DEEP = 4;
    private static final int FAULT_MANY = 5;

    /** The own words in the document's order, then those that only begin a question; a blank ends each. */
    private static final String WORDS = "field lure gap to miles shut sheep at curious lures stays worth storm wool day seen crimp led number or and not all min max first last often total most least ";

    // Kinds of tokens: a sign is its own byte, so all others lie above 255; words stand as in WORDS.
    private static final int W_FIELD = 256;
    private static final int W_LURE = 257;
    private static final int W_GAP = 258;
    private static final int W_TO = 259;
    private static final int W_MILES = 260;
    private static final int W_SHUT = 261;
    private static final int W_SHEEP = 262;
    private static final int W_AT = 263;
    private static final int W_CURIOUS = 264;
    private static final int W_LURES = 265;
    private static final int W_STAYS = 266;
    private static final int W_WORTH = 267;
    private static final int W_STORM = 268;
    private static final int W_WOOL = 269;
    private static final int W_DAY = 270;
    private static final int W_SEEN = 271;
    private static final int W_CRIMP = 272;
    private static final int W_LED = 273;
    private static final int W_NUMBER = 274;
    private static final int W_OR = 275;
    private static final int W_AND = 276;
    private static final int W_NOT = 277;
    private static final int W_ALL = 278;
    private static final int W_MIN = 279;
    private static final int W_MAX = 280;
    private static final int W_FIRST = 281;
    private static final int W_LAST = 282;
    private static final int W_OFTEN = 283;
    private static final int W_TOTAL = 284;
    private static final int W_MOST = 285;
    private static final int W_LEAST = 286;
    private static final int W_OTHER = 287;
    private static final int T_NUMBER = 300;
    private static final int T_END = 301;
    private static final int T_GLUED = 302;

    private static final int LURES = 0;
    private static final int STAYS = 1;
    private static final int WORTH = 2;
    private static final int FORMULAS = 3;
    private static final int QUESTION = 3;

    // Codes of a formula: a number is itself, a variable comes behind the numbers, an operator behind these.
    private static final int VARIABLE = 10000;
    private static final int V_CURIOUS = 0;
    private static final int V_WOOL = 1;
    private static final int V_DAY = 2;
    private static final int V_LURE = 3;
    private static final int V_SEEN = 4;
    private static final int V_MILES = 5;
    private static final int V_CRIMP = 6;
    private static final int V_LED = 7;
    private static final int V_NUMBER = 8;
    private static final int V_AT = 9;
    private static final int VARIABLES = 10;
    private static final int OPERATOR = VARIABLE + VARIABLES;
    private static final int O_PLUS = OPERATOR;
    private static final int O_MINUS = OPERATOR + 1;
    private static final int O_TIMES = OPERATOR + 2;
    private static final int O_DIVIDED = OPERATOR + 3;
    private static final int O_LESS = OPERATOR + 4;
    private static final int O_MORE = OPERATOR + 5;
    private static final int O_LIKE = OPERATOR + 6;
    private static final int O_MIN = OPERATOR + 7;
    private static final int O_MAX = OPERATOR + 8;
    private static final int O_AND = OPERATOR + 9;
    private static final int O_OR = OPERATOR + 10;
    private static final int O_NOT = OPERATOR + 11;
    private static final int O_SEEN_IN = OPERATOR + 12;
    private static final int O_LURES_BY = OPERATOR + 13;

    private final byte[] tape = new byte[MAX_TAPE];
    private int tapeLength;
    private final Reader reader = new Reader();
    private final Code question = new Code();
    private Upland spare = new Upland();
    private final Parser parser = new Parser(reader, spare);
    private final Hill hill = new Hill();
    private final State state = new State();
    private final State ahead = new State();
    private final Foresight foresight = new Foresight(hill, state, ahead);
    private final Past past = new Past();
    private final Picture picture = new Picture();
    private final int[] refused = new int[GROUPS_REFUSED];
    private int seed = 1;

    public StrayWool() {
    }

    // ---- the tape

    public int feed(int a, int b, int c, int d, int e) {
        if (tapeLength + FED_BYTES > MAX_TAPE) {
            return refuse(REFUSED_TAPE);
        }
        putBytes(a);
        putBytes(b);
        putBytes(c);
        putBytes(d);
        putBytes(e);
        return tapeLength;
    }

    public boolean end(int n) {
        if (n < 0 || n > tapeLength) {
            refuse(REFUSED_TAPE);
            return false;
        }
        tapeLength = n;
        return true;
    }

    // ---- the upland

    public int upland() {
        int length = takeTape();
        if (!parser.readUpland(tape, length, spare)) {
            return refuse(REFUSED_TEXT);
        }
        Upland former = hill.land;
        hill.land = spare;
        spare = former;
        state.begin(hill.land);
        past.clear();
        foresight.feltRows = 0;
        return hill.land.statements;
    }

    public int fault(int what) {
        switch (what) {
            case 0:
                return reader.fault;
            case 1:
                return reader.place;
            default:
                return NONE;
        }
    }

    public int has(int what) {
        switch (what) {
            case 0:
                return hill.land.fields;
            case 1:
                return hill.land.gaps;
            case 2:
                return hill.land.sheep;
            case 3:
                return state.day;
            case 4:
                return Integer.bitCount(state.open);
            case 5:
                return state.purse;
            case 6:
                return state.allMiles(hill.land.sheep);
            case 7:
                return state.keptRows;
            case 8:
                return foresight.feltRows;
            case 9:
                return past.count;
            default:
                return NONE;
        }
    }

    public int letter(int kind, int which, int k) {
        if (k < 0 || k >= MAX_NAME) {
            return NONE;
        }
        int name;
        if (kind == 0 && isField(which)) {
            name = hill.land.fieldName[which];
        } else if (kind == 1 && isSheep(which)) {
            name = hill.land.sheepName[which];
        } else {
            return NONE;
        }
        return name >> (LETTER_BITS * (MAX_NAME - 1 - k)) & 31;
    }

    public int lure(int field) {
        return isField(field) ? hill.land.fieldLure[field] : NONE;
    }

    public int gap(int gap, int what) {
        if (!isGap(gap)) {
            return NONE;
        }
        switch (what) {
            case 0:
                return hill.land.gapFrom[gap];
            case 1:
                return hill.land.gapTo[gap];
            case 2:
                return hill.land.gapMiles[gap];
            case 3:
                return state.open >> gap & 1;
            default:
                return NONE;
        }
    }

    public int sheep(int sheep, int what) {
        if (!isSheep(sheep)) {
            return NONE;
        }
        switch (what) {
            case 0:
                return state.field[sheep];
            case 1:
                return state.curiosity[sheep];
            case 2:
                return state.miles[sheep];
            case 3:
                return state.crimp[sheep];
            case 4:
                return state.led[sheep];
            case 5:
                return hill.land.sheepHome[sheep];
            default:
                return NONE;
        }
    }

    public int seen(int sheep, int field) {
        return isSheep(sheep) && isField(field) ? state.times[sheep * MAX_FIELDS + field] : NONE;
    }

    public int strays(int sheep) {
        return isSheep(sheep) ? hill.choice(state, sheep) : NONE;
    }

    public int brings(int sheep) {
        return isSheep(sheep) ? hill.worthOf(state, sheep) : NONE;
    }

    public int kept(int k, int what) {
        return k < 0 || k >= state.keptRows ? NONE : state.keptPart(k, what);
    }

    // ---- ahead

    public int later(int sheep, int n, int what) {
        if (!isSheep(sheep) || !canCome(n, MAX_AHEAD) || what < 0 || what > 2) {
            return NONE;
        }
        foresight.look(sheep, n);
        switch (what) {
            case 0:
                return ahead.field[sheep];
            case 1:
                return ahead.miles[sheep];
            default:
                return ahead.crimp[sheep];
        }
    }

    public int home(int sheep) {
        return isSheep(sheep) ? foresight.daysToHome(sheep) : NONE;
    }

    // ---- gaps, ways, fleeces

    public int gaps(int sheep, int field, int n) {
        if (!isSheep(sheep) || !isField(field) || !canCome(n, MAX_GAPS_AHEAD)) {
            return NONE;
        }
        return foresight.fewestChanges(sheep, field, n);
    }

    public int rumour(int n, int what) {
        if (n < 1 || !canCome(n, MAX_RUMOUR_AHEAD) || what < 0 || what > 1) {
            return NONE;
        }
        return foresight.bestRumour(n, what);
    }

    public int way(int from, int to) {
        return isField(from) && isField(to) ? foresight.fewestMiles(from, to) : NONE;
    }

    public int waits(int sheep, int n, int what) {
        if (!isSheep(sheep) || !canCome(n, MAX_AHEAD) || what < 0 || what > 1) {
            return NONE;
        }
        return foresight.bestWait(sheep, n, what);
    }

    public int coat(int n) {
        return n < 1 || n > MAX_COAT ? NONE : foresight.leastCoat(n);
    }

    public int watch(int n) {
        return canCome(n, MAX_AHEAD) ? foresight.leastWatch(n) : NONE;
    }

    public long ways(int field, int n, int crimp) {
        if (!isField(field) || n < 0 || n > MAX_WAY_GAPS || crimp < 0 || crimp >= CRIMPS) {
            return NOTHING;
        }
        return foresight.countWays(field, n, crimp);
    }

    // ---- how curious one was

    public int feel() {
        int length = takeTape();
        return foresight.takeFelt(tape, length) ? foresight.feltRows : refuse(REFUSED_TEXT);
    }

    public int curious(int sheep) {
        if (!isSheep(sheep)) {
            return NONE;
        }
        foresight.fillCrimps(sheep);
        return foresight.curiousBits(sheep);
    }

    public int tells(int sheep, int what) {
        if (!isSheep(sheep) || what < 0 || what > 2) {
            return NONE;
        }
        foresight.fillCrimps(sheep);
        return foresight.telling(sheep, foresight.curiousBits(sheep), what);
    }

    // ---- acts

    public int shear(int sheep) {
        if (!isSheep(sheep) || state.miles[sheep] == 0) {
            return refuse(REFUSED_ACT);
        }
        past.remember(state);
        int worth = hill.worthOf(state, sheep);
        state.purse = Math.min(MAX_PURSE, state.purse + worth);
        state.miles[sheep] = 0;
        state.crimp[sheep] = 0;
        state.led[sheep] = 0;
        return worth;
    }

    public boolean lead(int sheep, int gap) {
        if (!isSheep(sheep) || !isGap(gap) || !hill.leads(state, sheep, gap)) {
            refuse(REFUSED_ACT);
            return false;
        }
        past.remember(state);
        hill.passThrough(state, sheep, gap);
        state.led[sheep] = 1;
        return true;
    }

    public boolean swing(int gap, int on) {
        if (!isGap(gap) || on < 0 || on > 1 || (state.open >> gap & 1) == on) {
            refuse(REFUSED_ACT);
            return false;
        }
        past.remember(state);
        state.open ^= 1 << gap;
        return true;
    }

    public boolean tell(int sheep, int field, int times) {
        if (!isSheep(sheep) || !isField(field) || times < 0 || times > MAX_TIMES
                || state.times[sheep * MAX_FIELDS + field] == times) {
            refuse(REFUSED_ACT);
            return false;
        }
        past.remember(state);
        state.times[sheep * MAX_FIELDS + field] = times;
        return true;
    }

    public int days(int n) {
        if (n < 1 || !canCome(n, MAX_DAYS)) {
            return refuse(REFUSED_DAYS);
        }
        past.remember(state);
        int strayed = 0;
        for (int d = 0; d < n; d++) {
            strayed += hill.passDay(state);
        }
        return strayed;
    }

    public int chance(int n) {
        if (n < 1 || !canCome(n, MAX_DAYS)) {
            return refuse(REFUSED_DAYS);
        }
        past.remember(state);
        int storms = 0;
        for (int d = 0; d < n; d++) {
            if (stormComes()) {
                storms++;
            }
            hill.passDay(state);
        }
        return storms;
    }

    public boolean undo() {
        if (past.count == 0) {
            refuse(REFUSED_UNDO);
            return false;
        }
        past.restore(state);
        return true;
    }

    public boolean seed(int seed) {
        if (seed < 0) {
            refuse(REFUSED_STATE);
            return false;
        }
        this.seed = seed;
        return true;
    }

    // ---- questions

    public long ask() {
        int length = takeTape();
        int verb = parser.readQuestion(tape, length, question);
        return verb == NONE ? NOTHING : hill.answer(state, verb, question);
    }

    // ---- images, refusals

    public int image() {
        picture.write(hill.land, state);
        return picture.size;
    }

    public int octet(int k) {
        return k < 0 || k >= picture.size ? NONE : picture.bytes[k] & 255;
    }

    public boolean on() {
        int length = takeTape();
        ahead.begin(hill.land);
        if (!picture.read(tape, length, hill.land, ahead)) {
            refuse(REFUSED_STATE);
            return false;
        }
        state.copyFrom(ahead);
        past.clear();
        return true;
    }

    public int status(int what) {
        return what < 0 || what >= GROUPS_REFUSED ? NONE : refused[what];
    }

    // ---- helpers of the face

    private int refuse(int group) {
        refused[group]++;
        return NONE;
    }

    private void putBytes(int number) {
        for (int shift = 24; shift >= 0 && tapeLength < MAX_TAPE; shift -= 8) {
            tape[tapeLength] = (byte) (number >> shift);
            tapeLength++;
        }
    }

    /** The tape goes with every call that reads it, refused or not: the bytes stay, their number is told. */
    private int takeTape() {
        int length = tapeLength;
        tapeLength = 0;
        return length;
    }

    private boolean isField(int field) {
        return field >= 0 && field < hill.land.fields;
    }

    private boolean isGap(int gap) {
        return gap >= 0 && gap < hill.land.gaps;
    }

    private boolean isSheep(int sheep) {
        return sheep >= 0 && sheep < hill.land.sheep;
    }

    private boolean canCome(int n, int most) {
        return n >= 0 && n <= most && state.day + n <= MAX_DAY;
    }

    private boolean stormComes() {
        if (draw(100) >= hill.land.storm || hill.land.gaps == 0) {
            return false;
        }
        state.open ^= 1 << draw(hill.land.gaps);
        return true;
    }

    private int draw(int m) {
        seed = (int) (1103515245L * seed + 12345L & 0x7fffffffL);
        return m > 0 ? seed / 64 % m : 0;
    }

    /** What the text of an upland tells; no act changes it. */
    private static final class Upland {
        int statements;
        int fields;
        int gaps;
        int sheep;
        int storm;
        int openAtFirst;
        /** A bit for each formula that the text tells itself. */
        int told;
        final int[] fieldName = new int[MAX_FIELDS];
        final int[] fieldLure = new int[MAX_FIELDS];
        final int[] gapFrom = new int[MAX_GAPS];
        final int[] gapTo = new int[MAX_GAPS];
        final int[] gapMiles = new int[MAX_GAPS];
        final int[] sheepName = new int[MAX_SHEEP];
        final int[] sheepHome = new int[MAX_SHEEP];
        final int[] sheepCurious = new int[MAX_SHEEP];
        /** All formulas share one row of codes, since together they are no longer than the tape. */
        final Code code = new Code();
        final int[] codeFrom = new int[FORMULAS];
        final int[] codeTo = new int[FORMULAS];

        Upland() {
            clear();
        }

        void clear() {
            statements = 0;
            fields = 0;
            gaps = 0;
            sheep = 0;
            storm = 0;
            openAtFirst = 0;
            told = 0;
            code.size = 0;
            code.emit(VARIABLE + V_LURE);
            code.emit(VARIABLE + V_SEEN);
            code.emit(O_MINUS);
            setFormula(LURES, 0, 3);
            code.emit(0);
            setFormula(STAYS, 3, 4);
            code.emit(VARIABLE + V_WOOL);
            setFormula(WORTH, 4, 5);
        }

        void setFormula(int which, int from, int to) {
            codeFrom[which] = from;
            codeTo[which] = to;
        }

        int fieldNamed(int name) {
            for (int f = 0; f < fields; f++) {
                if (fieldName[f] == name) {
                    return f;
                }
            }
            return NONE;
        }

        int sheepNamed(int name) {
            for (int s = 0; s < sheep; s++) {
                if (sheepName[s] == name) {
                    return s;
                }
            }
            return NONE;
        }

        /** The field to which a gap goes from this one, open or not; NONE when it is not at this one. */
        int beyond(int gap, int field) {
            if (gapFrom[gap] == field) {
                return gapTo[gap];
            }
            return gapTo[gap] == field ? gapFrom[gap] : NONE;
        }
    }

    /** Codes in the order in which a stack reckons them. */
    private static final class Code {
        /** Each byte of a text makes one code at most; the five of Upland.clear() come ahead. */
        final int[] codes = new int[MAX_TAPE + 8];
        int size;

        void emit(int code) {
            if (size < codes.length) {
                codes[size] = code;
                size++;
            }
        }
    }

    /** All that acts change, but the seed. */
    private static final class State {
        int day;
        int purse;
        /** A bit for each gap that is open. */
        int open;
        final int[] field = new int[MAX_SHEEP];
        final int[] miles = new int[MAX_SHEEP];
        final int[] crimp = new int[MAX_SHEEP];
        final int[] led = new int[MAX_SHEEP];
        /** As the upland tells; held here since CURIOUS tries others ahead. */
        final int[] curiosity = new int[MAX_SHEEP];
        final int[] times = new int[MAX_SHEEP * MAX_FIELDS];
        /** A ring, the oldest at keptFirst; a row is one number, since each act remembers them all. */
        final int[] kept = new int[MAX_KEPT];
        int keptFirst;
        int keptRows;

        void begin(Upland land) {
            day = 0;
            purse = 0;
            open = land.openAtFirst;
            keptFirst = 0;
            keptRows = 0;
            Arrays.fill(times, 0);
            for (int s = 0; s < land.sheep; s++) {
                field[s] = land.sheepHome[s];
                miles[s] = 0;
                crimp[s] = 0;
                led[s] = 0;
                curiosity[s] = land.sheepCurious[s];
                times[s * MAX_FIELDS + field[s]] = 1;
            }
        }

        void copyFrom(State other) {
            day = other.day;
            purse = other.purse;
            open = other.open;
            keptFirst = other.keptFirst;
            keptRows = other.keptRows;
            System.arraycopy(other.field, 0, field, 0, MAX_SHEEP);
            System.arraycopy(other.miles, 0, miles, 0, MAX_SHEEP);
            System.arraycopy(other.crimp, 0, crimp, 0, MAX_SHEEP);
            System.arraycopy(other.led, 0, led, 0, MAX_SHEEP);
            System.arraycopy(other.curiosity, 0, curiosity, 0, MAX_SHEEP);
            System.arraycopy(other.times, 0, times, 0, times.length);
            System.arraycopy(other.kept, 0, kept, 0, kept.length);
        }

        /** Sheep don't heed one another, so looking ahead for one needs no more than this. */
        void copyOne(State other, int s) {
            day = other.day;
            open = other.open;
            field[s] = other.field[s];
            miles[s] = other.miles[s];
            crimp[s] = other.crimp[s];
            led[s] = other.led[s];
            curiosity[s] = other.curiosity[s];
            System.arraycopy(other.times, s * MAX_FIELDS, times, s * MAX_FIELDS, MAX_FIELDS);
        }

        int allMiles(int sheep) {
            int all = 0;
            for (int s = 0; s < sheep; s++) {
                all += miles[s];
            }
            return all;
        }

        void keep(int s, int gap) {
            int row;
            if (keptRows < MAX_KEPT) {
                row = (keptFirst + keptRows) % MAX_KEPT;
                keptRows++;
            } else {
                row = keptFirst;
                keptFirst = (keptFirst + 1) % MAX_KEPT;
            }
            kept[row] = ((day * MAX_SHEEP + s) * MAX_GAPS + gap) * (MAX_MILES + 1) + miles[s];
        }

        int keptPart(int k, int what) {
            int row = kept[(keptFirst + k) % MAX_KEPT];
            int ahead = row / (MAX_MILES + 1);
            switch (what) {
                case 0:
                    return ahead / MAX_GAPS / MAX_SHEEP;
                case 1:
                    return ahead / MAX_GAPS % MAX_SHEEP;
                case 2:
                    return ahead % MAX_GAPS;
                case 3:
                    return row % (MAX_MILES + 1);
                default:
                    return NONE;
            }
        }
    }

    /** The states ahead of the latest acts, in a ring. */
    private static final class Past {
        final State[] states = new State[MAX_ACTS];
        int next;
        int count;

        Past() {
            for (int i = 0; i < MAX_ACTS; i++) {
                states[i] = new State();
            }
        }

        void clear() {
            count = 0;
        }

        void remember(State state) {
            states[next].copyFrom(state);
            next = (next + 1) % MAX_ACTS;
            count = Math.min(MAX_ACTS, count + 1);
        }

        void restore(State state) {
            next = (next + MAX_ACTS - 1) % MAX_ACTS;
            count--;
            state.copyFrom(states[next]);
        }
    }

    /** Reckons codes on a stack. */
    private static final class Reckoner {
        final int[] values = new int[VARIABLES];
        /** Six open marks need some forty; a question may have lures reckoned on top of its own. */
        final int[] stack = new int[256];
        int top;

        int run(Upland land, int which) {
            int base = top;
            for (int i = land.codeFrom[which]; i < land.codeTo[which]; i++) {
                step(land.code.codes[i]);
            }
            int answer = top > base ? stack[top - 1] : 0;
            top = base;
            return answer;
        }

        void step(int code) {
            if (code < OPERATOR) {
                push(code < VARIABLE ? code : values[code - VARIABLE]);
                return;
            }
            int b = pop();
            if (code == O_NOT) {
                push(1 - b);
                return;
            }
            int a = pop();
            switch (code) {
                case O_PLUS:
                    push((long) a + b);
                    break;
                case O_MINUS:
                    push((long) a - b);
                    break;
                case O_TIMES:
                    push((long) a * b);
                    break;
                case O_DIVIDED:
                    push(b == 0 ? 0 : Math.floorDiv(a, b));
                    break;
                case O_LESS:
                    push(a < b ? 1 : 0);
                    break;
                case O_MORE:
                    push(a > b ? 1 : 0);
                    break;
                case O_LIKE:
                    push(a == b ? 1 : 0);
                    break;
                case O_MIN:
                case O_AND:
                    push(Math.min(a, b));
                    break;
                default:
                    push(Math.max(a, b));
                    break;
            }
        }

        /** Each value is cut here, since only sums, differences and products can be too great. */
        void push(long value) {
            if (top < stack.length) {
                stack[top] = value > SUM_LIMIT ? SUM_LIMIT : value < -SUM_LIMIT ? -SUM_LIMIT : (int) value;
                top++;
            }
        }

        int pop() {
            if (top == 0) {
                return 0;
            }
            top--;
            return stack[top];
        }
    }

    /** The upland with its rules: how sheep stray, what wool is worth, what a question is answered. */
    private static final class Hill {
        Upland land = new Upland();
        final Reckoner reckoner = new Reckoner();
        final int[] pulls = new int[MAX_GAPS];

        void setSheep(State state, int s) {
            int[] values = reckoner.values;
            values[V_CURIOUS] = state.curiosity[s];
            values[V_WOOL] = state.miles[s];
            values[V_DAY] = state.day;
            values[V_CRIMP] = state.crimp[s];
            values[V_LED] = state.led[s];
            values[V_NUMBER] = s;
            values[V_AT] = state.field[s];
        }

        void setField(State state, int s, int field) {
            reckoner.values[V_LURE] = land.fieldLure[field];
            reckoner.values[V_SEEN] = state.times[s * MAX_FIELDS + field];
        }

        boolean leads(State state, int s, int gap) {
            return (state.open >> gap & 1) == 1 && land.beyond(gap, state.field[s]) != NONE;
        }

        /** The gap through which a sheep strays in a day; NONE when it does not. */
        int choice(State state, int s) {
            return mostLuring(luring(state, s, state.open, pulls, 0), pulls, 0);
        }

        /** Bits of those gaps at a sheep's field that lure it, 0 when it stays; by how much goes into a row. */
        int luring(State state, int s, int gaps, int[] row, int from) {
            int field = state.field[s];
            setSheep(state, s);
            setField(state, s, field);
            if (reckoner.run(land, STAYS) != 0) {
                return 0;
            }
            int bits = 0;
            for (int k = 0; k < land.gaps && from + k < row.length; k++) {
                int beyond = land.beyond(k, field);
                if (beyond == NONE || (gaps >> k & 1) == 0) {
                    continue;
                }
                row[from + k] = pullBy(state, s, k, beyond);
                bits |= row[from + k] > 0 ? 1 << k : 0;
            }
            return bits;
        }

        /** The first of those that lure most; NONE without any. */
        int mostLuring(int bits, int[] row, int from) {
            int best = NONE;
            for (int k = 0; k < land.gaps && from + k < row.length; k++) {
                if ((bits >> k & 1) == 1 && (best == NONE || row[from + k] > row[from + best])) {
                    best = k;
                }
            }
            return best;
        }

        /** The SUM of lures; the sheep's own values are set already. */
        int pullBy(State state, int s, int gap, int beyond) {
            setField(state, s, beyond);
            reckoner.values[V_MILES] = land.gapMiles[gap];
            return reckoner.run(land, LURES);
        }

        void passThrough(State state, int s, int gap) {
            int beyond = land.beyond(gap, state.field[s]);
            if (beyond == NONE) {
                return;
            }
            int place = s * MAX_FIELDS + beyond;
            state.field[s] = beyond;
            state.times[place] = Math.min(MAX_TIMES, state.times[place] + 1);
            state.miles[s] = Math.min(MAX_MILES, state.miles[s] + land.gapMiles[gap]);
            state.crimp[s] = (3 * state.crimp[s] + gap + 1) % CRIMPS;
        }

        /** A DAY of all sheep: how many strayed. */
        int passDay(State state) {
            int strayed = 0;
            for (int s = 0; s < land.sheep; s++) {
                int gap = choice(state, s);
                if (gap != NONE) {
                    passThrough(state, s, gap);
                    state.keep(s, gap);
                    strayed++;
                }
            }
            state.day = Math.min(MAX_DAY, state.day + 1);
            return strayed;
        }

        /** DAYS of one sheep alone. */
        void goOn(State state, int s, int n) {
            for (int d = 0; d < n; d++) {
                int gap = mostLuring(luring(state, s, state.open, pulls, 0), pulls, 0);
                if (gap != NONE) {
                    passThrough(state, s, gap);
                }
                state.day = Math.min(MAX_DAY, state.day + 1);
            }
        }

        int worthOf(State state, int s) {
            setSheep(state, s);
            return Math.max(0, Math.min(MAX_WORTH, reckoner.run(land, WORTH)));
        }

        long answer(State state, int verb, Code question) {
            long answer = verb == W_FIRST || verb == W_LAST ? NONE : 0;
            for (int s = 0; s < land.sheep; s++) {
                int value = questionOf(state, s, question);
                switch (verb) {
                    case W_FIRST:
                        answer = answer == NONE && value != 0 ? s : answer;
                        break;
                    case W_LAST:
                        answer = value != 0 ? s : answer;
                        break;
                    case W_MOST:
                        answer = s == 0 ? value : Math.max(answer, value);
                        break;
                    case W_LEAST:
                        answer = s == 0 ? value : Math.min(answer, value);
                        break;
                    default:
                        answer += value;
                        break;
                }
            }
            return answer;
        }

        int questionOf(State state, int s, Code question) {
            setSheep(state, s);
            reckoner.top = 0;
            for (int i = 0; i < question.size; i++) {
                int code = question.codes[i];
                if (code == O_SEEN_IN) {
                    int field = reckoner.pop();
                    boolean there = field >= 0 && field < land.fields;
                    reckoner.push(there ? state.times[s * MAX_FIELDS + field] : 0);
                } else if (code == O_LURES_BY) {
                    int gap = reckoner.pop();
                    boolean there = gap >= 0 && gap < land.gaps && leads(state, s, gap);
                    reckoner.push(there ? pullBy(state, s, gap, land.beyond(gap, state.field[s])) : 0);
                } else {
                    reckoner.step(code);
                }
            }
            return reckoner.pop();
        }
    }

    /** What will be, or would be, from now on; tried out in the state ahead. */
    private static final class Foresight {
        final Hill hill;
        final State now;
        final State ahead;
        final int[] felt = new int[MAX_FELT * FELT_PARTS];
        int feltRows;
        /** The best changes found so far, and how much each gap lures, by the days left. */
        int fewest;
        final int[] pulls = new int[(MAX_GAPS_AHEAD + 1) * MAX_GAPS];
        /** Of one sheep: by how curious it is, by days ahead. */
        final int[] crimps = new int[CURIOSITIES * (MAX_FELT_AHEAD + 1)];
        final int[] distance = new int[MAX_FIELDS];
        final int[] near = new int[MAX_FIELDS];
        /** By field, by crimp: how many ways end so. */
        long[] ends = new long[MAX_FIELDS * CRIMPS];
        long[] nextEnds = new long[MAX_FIELDS * CRIMPS];

        Foresight(Hill hill, State now, State ahead) {
            this.hill = hill;
            this.now = now;
            this.ahead = ahead;
        }

        void look(int s, int n) {
            ahead.copyOne(now, s);
            hill.goOn(ahead, s, n);
        }

        int daysAtMost(int most) {
            return Math.min(most, MAX_DAY - now.day);
        }

        int daysToHome(int s) {
            int most = daysAtMost(MAX_AHEAD);
            ahead.copyOne(now, s);
            for (int d = 1; d <= most; d++) {
                hill.goOn(ahead, s, 1);
                if (ahead.field[s] == hill.land.sheepHome[s]) {
                    return d;
                }
            }
            return NONE;
        }

        int fewestChanges(int s, int field, int n) {
            ahead.copyOne(now, s);
            fewest = NONE;
            tryDays(s, field, n, 0, 0);
            return fewest;
        }

        /**
         * Tries the days left, from the state ahead on. Whether a gap is open is decided when it first matters, both
         * ways one after the other, so that gaps which never matter cost nothing; changed are those that are decided
         * otherwise than they are now.
         */
        private void tryDays(int s, int field, int left, int decided, int changed) {
            if (!isFewer(changed)) {
                return;
            }
            if (left <= 0) {
                fewest = ahead.field[s] == field ? changed : fewest;
                return;
            }
            int row = left * MAX_GAPS;
            int shut = decided & ~(now.open ^ changed);
            int rest = hill.luring(ahead, s, ~shut, pulls, row);
            int known = decided;
            int bits = changed;
            for (int k = 0; k < MAX_GAPS && rest != 0; k++) {
                int gap = hill.mostLuring(rest, pulls, row);
                if (gap == NONE) {
                    return;
                }
                int bit = 1 << gap;
                tryThrough(s, field, left, gap, known | bit, bits | bit & ~now.open);
                if ((known & bit) != 0) {
                    return;
                }
                rest &= ~bit;
                known |= bit;
                bits |= bit & now.open;
            }
            ahead.day++;
            tryDays(s, field, left - 1, known, bits);
            ahead.day--;
        }

        private void tryThrough(int s, int field, int left, int gap, int decided, int changed) {
            int from = ahead.field[s];
            int beyond = hill.land.beyond(gap, from);
            if (beyond == NONE) {
                return;
            }
            int place = s * MAX_FIELDS + beyond;
            int times = ahead.times[place];
            int miles = ahead.miles[s];
            int crimp = ahead.crimp[s];
            hill.passThrough(ahead, s, gap);
            ahead.day++;
            tryDays(s, field, left - 1, decided, changed);
            ahead.day--;
            ahead.field[s] = from;
            ahead.times[place] = times;
            ahead.miles[s] = miles;
            ahead.crimp[s] = crimp;
        }

        /** Changes only become more while days are tried, so what is not fewer here won't be later. */
        boolean isFewer(int changed) {
            int more = fewest == NONE ? -1 : Integer.bitCount(changed) - Integer.bitCount(fewest);
            return more < 0 || more == 0 && changed < fewest;
        }

        /** Of a RUMOUR: 0 the gap, 1 the miles. */
        int bestRumour(int n, int what) {
            int best = NONE;
            int most = NONE;
            for (int k = NONE; k < hill.land.gaps; k++) {
                int miles = 0;
                for (int s = 0; s < hill.land.sheep; s++) {
                    ahead.copyOne(now, s);
                    ahead.open = k == NONE ? now.open : now.open ^ 1 << k;
                    hill.goOn(ahead, s, n);
                    miles += ahead.miles[s];
                }
                if (miles > most) {
                    most = miles;
                    best = k;
                }
            }
            return what == 0 ? best : most;
        }

        int fewestMiles(int from, int to) {
            Upland land = hill.land;
            Arrays.fill(distance, NONE);
            distance[from] = 0;
            for (int round = 1; round < land.fields; round++) {
                for (int k = 0; k < land.gaps; k++) {
                    if ((now.open >> k & 1) == 1) {
                        shorten(land.gapFrom[k], land.gapTo[k], land.gapMiles[k]);
                        shorten(land.gapTo[k], land.gapFrom[k], land.gapMiles[k]);
                    }
                }
            }
            return distance[to];
        }

        void shorten(int from, int to, int miles) {
            if (distance[from] == NONE) {
                return;
            }
            int through = distance[from] + miles;
            if (distance[to] == NONE || through < distance[to]) {
                distance[to] = through;
            }
        }

        /** To WAIT: 0 the days, 1 what it brings. */
        int bestWait(int s, int n, int what) {
            ahead.copyOne(now, s);
            int best = 0;
            int most = hill.worthOf(ahead, s);
            for (int d = 1; d <= n; d++) {
                hill.goOn(ahead, s, 1);
                int worth = hill.worthOf(ahead, s);
                if (worth > most) {
                    most = worth;
                    best = d;
                }
            }
            return what == 0 ? best : most;
        }

        int leastCoat(int n) {
            int best = NONE;
            int bestMiles = 0;
            for (int bits = 1; bits < 1 << hill.land.sheep; bits++) {
                int miles = milesOf(bits);
                if (miles < n) {
                    continue;
                }
                int more = best == NONE ? -1 : Integer.bitCount(bits) - Integer.bitCount(best);
                if (more < 0 || more == 0 && miles < bestMiles) {
                    best = bits;
                    bestMiles = miles;
                }
            }
            return best;
        }

        int milesOf(int bits) {
            int miles = 0;
            for (int s = 0; s < hill.land.sheep; s++) {
                if ((bits >> s & 1) == 1) {
                    miles += now.miles[s];
                }
            }
            return miles;
        }

        int leastWatch(int n) {
            int stood = 0;
            for (int s = 0; s < hill.land.sheep; s++) {
                ahead.copyOne(now, s);
                hill.goOn(ahead, s, n);
                stood |= 1 << ahead.field[s];
            }
            fillNear();
            int best = NONE;
            for (int bits = 0; bits < 1 << hill.land.fields; bits++) {
                if (watches(bits, stood)
                        && (best == NONE || Integer.bitCount(bits) < Integer.bitCount(best))) {
                    best = bits;
                }
            }
            return best;
        }

        void fillNear() {
            Upland land = hill.land;
            for (int f = 0; f < land.fields; f++) {
                near[f] = 1 << f;
            }
            for (int k = 0; k < land.gaps; k++) {
                if ((now.open >> k & 1) == 1) {
                    near[land.gapFrom[k]] |= 1 << land.gapTo[k];
                    near[land.gapTo[k]] |= 1 << land.gapFrom[k];
                }
            }
        }

        boolean watches(int bits, int stood) {
            for (int f = 0; f < hill.land.fields; f++) {
                if ((stood >> f & 1) == 1 && (near[f] & bits) == 0) {
                    return false;
                }
            }
            return true;
        }

        long countWays(int field, int n, int crimp) {
            Upland land = hill.land;
            Arrays.fill(ends, 0L);
            ends[field * CRIMPS] = 1;
            for (int step = 0; step < n; step++) {
                Arrays.fill(nextEnds, 0L);
                for (int k = 0; k < land.gaps; k++) {
                    if ((now.open >> k & 1) == 1) {
                        leadEnds(land.gapFrom[k], land.gapTo[k], k);
                        leadEnds(land.gapTo[k], land.gapFrom[k], k);
                    }
                }
                long[] former = ends;
                ends = nextEnds;
                nextEnds = former;
            }
            long ways = 0;
            for (int f = 0; f < land.fields; f++) {
                ways += ends[f * CRIMPS + crimp];
            }
            return ways;
        }

        void leadEnds(int from, int to, int gap) {
            for (int c = 0; c < CRIMPS; c++) {
                nextEnds[to * CRIMPS + (3 * c + gap + 1) % CRIMPS] += ends[from * CRIMPS + c];
            }
        }

        boolean takeFelt(byte[] tape, int length) {
            int rows = length / FELT_PARTS;
            if (rows < 1 || rows > MAX_FELT || rows * FELT_PARTS != length) {
                return false;
            }
            for (int i = 0; i < length; i += FELT_PARTS) {
                if ((tape[i] & 255) > MAX_FELT_AHEAD || (tape[i + 1] & 255) >= hill.land.sheep
                        || (tape[i + 2] & 255) >= CRIMPS) {
                    return false;
                }
            }
            for (int i = 0; i < length; i++) {
                felt[i] = tape[i] & 255;
            }
            feltRows = rows;
            return true;
        }

        void fillCrimps(int s) {
            int most = daysAtMost(MAX_FELT_AHEAD);
            for (int c = 0; c < CURIOSITIES; c++) {
                ahead.copyOne(now, s);
                ahead.curiosity[s] = c;
                for (int d = 0; d <= most; d++) {
                    if (d > 0) {
                        hill.goOn(ahead, s, 1);
                    }
                    crimps[c * (MAX_FELT_AHEAD + 1) + d] = ahead.crimp[s];
                }
            }
        }

        /** CURIOUS of the sheep whose crimps are filled in. */
        int curiousBits(int s) {
            int bits = (1 << CURIOSITIES) - 1;
            for (int row = 0; row < feltRows; row++) {
                int n = felt[row * FELT_PARTS];
                int whose = felt[row * FELT_PARTS + 1];
                int crimp = felt[row * FELT_PARTS + 2];
                if (n > daysAtMost(MAX_FELT_AHEAD)) {
                    return 0;
                }
                if (whose == s) {
                    bits &= curiousBy(n, crimp);
                } else {
                    ahead.copyOne(now, whose);
                    hill.goOn(ahead, whose, n);
                    bits = ahead.crimp[whose] == crimp ? bits : 0;
                }
            }
            return bits;
        }

        int curiousBy(int n, int crimp) {
            int bits = 0;
            for (int c = 0; c < CURIOSITIES; c++) {
                if (crimps[c * (MAX_FELT_AHEAD + 1) + n] == crimp) {
                    bits |= 1 << c;
                }
            }
            return bits;
        }

        /** Of TELLING: 0 days ahead, 1 the sheep, 2 how many are left at the most. */
        int telling(int s, int bits, int what) {
            int most = daysAtMost(MAX_FELT_AHEAD);
            int bestDay = NONE;
            int bestSheep = NONE;
            int fewest = NONE;
            for (int d = 1; d <= most && bits != 0; d++) {
                for (int whose = 0; whose < hill.land.sheep; whose++) {
                    // Another sheep's crimp is the same however curious this one is.
                    int left = whose == s ? mostLeft(d, bits) : Integer.bitCount(bits);
                    if (fewest == NONE || left < fewest) {
                        fewest = left;
                        bestDay = d;
                        bestSheep = whose;
                    }
                }
            }
            return what == 0 ? bestDay : what == 1 ? bestSheep : fewest;
        }

        int mostLeft(int n, int bits) {
            int most = 0;
            for (int c = 0; c < CURIOSITIES; c++) {
                if ((bits >> c & 1) == 1) {
                    int alike = curiousBy(n, crimps[c * (MAX_FELT_AHEAD + 1) + n]) & bits;
                    most = Math.max(most, Integer.bitCount(alike));
                }
            }
            return most;
        }
    }

    /** Tokens of a text, and the first fault along it. */
    private static final class Reader {
        byte[] text = new byte[0];
        int length;
        /** The token's kind, its first byte, the byte behind it. */
        int kind = T_END;
        int start;
        int next;
        int fault;
        int place = NONE;

        void open(byte[] text, int length) {
            this.text = text;
            this.length = Math.min(length, text.length);
            next = 0;
            fault = 0;
            place = NONE;
            advance();
        }

        void advance() {
            int behind = next;
            start = behind;
            while (start < length && (text[start] == 10 || text[start] == 32)) {
                start++;
            }
            next = start;
            if (start >= length) {
                kind = T_END;
                return;
            }
            if (isLetter(start)) {
                while (next < length && isLetter(next)) {
                    next++;
                }
                kind = wordKind();
            } else if (isDigit(start)) {
                while (next < length && isDigit(next)) {
                    next++;
                }
                kind = T_NUMBER;
            } else {
                next++;
                kind = text[start] & 255;
                return;
            }
            // Words and numbers side by side need a blank.
            if (start == behind && start > 0 && (isLetter(start - 1) || isDigit(start - 1))) {
                kind = T_GLUED;
            }
        }

        boolean isLetter(int i) {
            return text[i] >= 'a' && text[i] <= 'z';
        }

        boolean isDigit(int i) {
            return text[i] >= '0' && text[i] <= '9';
        }

        int wordKind() {
            int kind = W_FIELD;
            int i = start;
            boolean same = true;
            for (int k = 0; k < WORDS.length(); k++) {
                char sign = WORDS.charAt(k);
                if (sign != ' ') {
                    same = same && i < next && text[i] == sign;
                    i++;
                } else if (same && i == next) {
                    return kind;
                } else {
                    kind++;
                    i = start;
                    same = true;
                }
            }
            return W_OTHER;
        }

        boolean fail(int fault, int place) {
            this.fault = fault;
            this.place = place;
            return false;
        }

        boolean expect(int kind) {
            if (this.kind != kind) {
                return fail(FAULT_TEXT, start);
            }
            advance();
            return true;
        }

        /** A number from least to most; NONE with a fault. */
        int takeNumber(int least, int most) {
            if (kind != T_NUMBER) {
                fail(FAULT_TEXT, start);
                return NONE;
            }
            if (next - start > 4) {
                fail(FAULT_TEXT, start + 4);
                return NONE;
            }
            int number = 0;
            for (int i = start; i < next; i++) {
                number = number * 10 + text[i] - '0';
            }
            if (number < least || number > most) {
                fail(FAULT_NUMBER, start);
                return NONE;
            }
            advance();
            return number;
        }

        /** A name, five bits a letter, the first one highest; NONE with a fault. */
        int takeName() {
            // An own word is at its first byte even with seven letters, which comes first along the text.
            if (kind < W_FIRST || kind > W_OTHER) {
                fail(FAULT_TEXT, start);
                return NONE;
            }
            if (next - start > MAX_NAME) {
                fail(FAULT_TEXT, start + MAX_NAME);
                return NONE;
            }
            int name = 0;
            for (int i = start; i < start + MAX_NAME; i++) {
                name = name << LETTER_BITS | (i < next ? text[i] - 'a' + 1 : 0);
            }
            advance();
            return name;
        }
    }

    /** Reads uplands and questions; their TESTS and SUMS become codes. */
    private static final class Parser {
        final Reader reader;
        /** What an upland's statements are told to. */
        Upland land;
        /** Where codes go, and what they are for: a formula of the upland, or a question. */
        Code code;
        int use = QUESTION;

        Parser(Reader reader, Upland land) {
            this.reader = reader;
            this.land = land;
            this.code = land.code;
        }

        /** False with a fault; then what the upland holds is of no use. */
        boolean readUpland(byte[] text, int length, Upland into) {
            land = into;
            land.clear();
            reader.open(text, length);
            for (int n = 0; n <= MAX_STATEMENTS; n++) {
                if (reader.kind == T_END) {
                    land.statements = n;
                    return true;
                }
                if (n == MAX_STATEMENTS) {
                    return reader.fail(FAULT_MANY, reader.start);
                }
                if (!statement() || !reader.expect(';')) {
                    return false;
                }
            }
            return false;
        }

        /** The word with which a question begins; NONE with a fault. */
        int readQuestion(byte[] text, int length, Code question) {
            reader.open(text, length);
            question.size = 0;
            code = question;
            use = QUESTION;
            int verb = reader.kind;
            if (verb < W_FIRST || verb > W_LEAST) {
                reader.fail(FAULT_TEXT, reader.start);
                return NONE;
            }
            reader.advance();
            boolean good = verb <= W_OFTEN ? test(0) : sum(0);
            return good && reader.expect(T_END) ? verb : NONE;
        }

        private boolean statement() {
            switch (reader.kind) {
                case W_FIELD:
                    return fieldStatement();
                case W_GAP:
                    return gapStatement();
                case W_SHUT:
                    return shutStatement();
                case W_SHEEP:
                    return sheepStatement();
                case W_LURES:
                    return beginFormula(LURES) && sum(0) && endFormula(LURES);
                case W_STAYS:
                    return beginFormula(STAYS) && test(0) && endFormula(STAYS);
                case W_WORTH:
                    return beginFormula(WORTH) && sum(0) && endFormula(WORTH);
                case W_STORM:
                    return stormStatement();
                default:
                    return reader.fail(FAULT_TEXT, reader.start);
            }
        }

        private boolean fieldStatement() {
            int f = land.fields;
            if (f >= MAX_FIELDS) {
                return reader.fail(FAULT_MANY, reader.start);
            }
            reader.advance();
            int name = newName();
            if (name == NONE || !reader.expect(W_LURE)) {
                return false;
            }
            int lure = reader.takeNumber(0, MAX_DIGIT);
            if (lure == NONE) {
                return false;
            }
            land.fieldName[f] = name;
            land.fieldLure[f] = lure;
            land.fields++;
            return true;
        }

        private boolean gapStatement() {
            int k = land.gaps;
            if (k >= MAX_GAPS) {
                return reader.fail(FAULT_MANY, reader.start);
            }
            reader.advance();
            int from = knownField(NONE);
            if (from == NONE || !reader.expect(W_TO)) {
                return false;
            }
            int to = knownField(from);
            if (to == NONE || !reader.expect(W_MILES)) {
                return false;
            }
            int miles = reader.takeNumber(1, MAX_DIGIT);
            if (miles == NONE) {
                return false;
            }
            land.gapFrom[k] = from;
            land.gapTo[k] = to;
            land.gapMiles[k] = miles;
            land.openAtFirst |= 1 << k;
            land.gaps++;
            return true;
        }

        private boolean shutStatement() {
            reader.advance();
            int place = reader.start;
            int k = reader.takeNumber(0, land.gaps - 1);
            if (k == NONE) {
                return false;
            }
            if ((land.openAtFirst >> k & 1) == 0) {
                return reader.fail(FAULT_NUMBER, place);
            }
            land.openAtFirst ^= 1 << k;
            return true;
        }

        private boolean sheepStatement() {
            int s = land.sheep;
            if (s >= MAX_SHEEP) {
                return reader.fail(FAULT_MANY, reader.start);
            }
            reader.advance();
            int name = newName();
            if (name == NONE || !reader.expect(W_AT)) {
                return false;
            }
            int home = knownField(NONE);
            if (home == NONE || !reader.expect(W_CURIOUS)) {
                return false;
            }
            int curious = reader.takeNumber(0, MAX_DIGIT);
            if (curious == NONE) {
                return false;
            }
            land.sheepName[s] = name;
            land.sheepHome[s] = home;
            land.sheepCurious[s] = curious;
            land.sheep++;
            return true;
        }

        private boolean beginFormula(int which) {
            if ((land.told >> which & 1) == 1) {
                return reader.fail(FAULT_MANY, reader.start);
            }
            land.told |= 1 << which;
            reader.advance();
            code = land.code;
            use = which;
            land.codeFrom[which] = code.size;
            return true;
        }

        private boolean endFormula(int which) {
            land.codeTo[which] = code.size;
            return true;
        }

        private boolean stormStatement() {
            reader.advance();
            int storm = reader.takeNumber(0, MAX_STORM);
            if (storm == NONE) {
                return false;
            }
            land.storm = storm;
            return true;
        }

        /** A name that nothing has yet; NONE with a fault. */
        private int newName() {
            int place = reader.start;
            int name = reader.takeName();
            if (name != NONE && (land.fieldNamed(name) != NONE || land.sheepNamed(name) != NONE)) {
                reader.fail(FAULT_NAME, place);
                return NONE;
            }
            return name;
        }

        /** The field of a name, unlike another one; NONE with a fault. */
        private int knownField(int other) {
            int place = reader.start;
            int name = reader.takeName();
            if (name == NONE) {
                return NONE;
            }
            int field = land.fieldNamed(name);
            if (field == NONE || field == other) {
                reader.fail(FAULT_NAME, place);
                return NONE;
            }
            return field;
        }

        // In what follows open counts the marks that are open at once.

        private boolean test(int open) {
            for (int n = 0; n <= reader.length; n++) {
                if (!both(open)) {
                    return false;
                }
                if (n > 0) {
                    code.emit(O_OR);
                }
                if (reader.kind != W_OR) {
                    return true;
                }
                reader.advance();
            }
            return false;
        }

        private boolean both(int open) {
            for (int n = 0; n <= reader.length; n++) {
                if (!fact(open)) {
                    return false;
                }
                if (n > 0) {
                    code.emit(O_AND);
                }
                if (reader.kind != W_AND) {
                    return true;
                }
                reader.advance();
            }
            return false;
        }

        private boolean fact(int open) {
            switch (reader.kind) {
                case W_NOT:
                    if (!opens(open) || !fact(open + 1)) {
                        return false;
                    }
                    code.emit(O_NOT);
                    return true;
                case '[':
                    return opens(open) && test(open + 1) && reader.expect(']');
                case W_ALL:
                    code.emit(1);
                    reader.advance();
                    return true;
                default:
                    if (!sum(open)) {
                        return false;
                    }
                    int sign = signCode(reader.kind);
                    if (sign == NONE) {
                        return reader.fail(FAULT_TEXT, reader.start);
                    }
                    reader.advance();
                    if (!sum(open)) {
                        return false;
                    }
                    code.emit(sign);
                    return true;
            }
        }

        private static int signCode(int kind) {
            switch (kind) {
                case '<':
                    return O_LESS;
                case '>':
                    return O_MORE;
                case '=':
                    return O_LIKE;
                default:
                    return NONE;
            }
        }

        /** Goes behind a mark, unless it is one too many. */
        private boolean opens(int open) {
            if (open >= MAX_OPEN_MARKS) {
                return reader.fail(FAULT_DEEP, reader.start);
            }
            reader.advance();
            return true;
        }

        private boolean sum(int open) {
            int waiting = NONE;
            for (int n = 0; n <= reader.length; n++) {
                if (!product(open)) {
                    return false;
                }
                if (waiting != NONE) {
                    code.emit(waiting);
                }
                if (reader.kind != '+' && reader.kind != '-') {
                    return true;
                }
                waiting = reader.kind == '+' ? O_PLUS : O_MINUS;
                reader.advance();
            }
            return false;
        }

        private boolean product(int open) {
            int waiting = NONE;
            for (int n = 0; n <= reader.length; n++) {
                if (!part(open)) {
                    return false;
                }
                if (waiting != NONE) {
                    code.emit(waiting);
                }
                if (reader.kind != '*' && reader.kind != '/') {
                    return true;
                }
                waiting = reader.kind == '*' ? O_TIMES : O_DIVIDED;
                reader.advance();
            }
            return false;
        }

        private boolean part(int open) {
            int kind = reader.kind;
            int value;
            switch (kind) {
                case T_NUMBER:
                    value = reader.takeNumber(0, MAX_NUMBER);
                    if (value == NONE) {
                        return false;
                    }
                    code.emit(value);
                    return true;
                case '(':
                    return opens(open) && sum(open + 1) && reader.expect(')');
                case W_MIN:
                case W_MAX:
                    reader.advance();
                    if (reader.kind != '(') {
                        return reader.fail(FAULT_TEXT, reader.start);
                    }
                    if (!opens(open) || !sum(open + 1) || !reader.expect(',')
                            || !sum(open + 1) || !reader.expect(')')) {
                        return false;
                    }
                    code.emit(kind == W_MIN ? O_MIN : O_MAX);
                    return true;
                default:
                    break;
            }
            if (use == QUESTION && (kind == W_SEEN || kind == W_LURES)) {
                if (!opens(open) || !part(open + 1)) {
                    return false;
                }
                code.emit(kind == W_SEEN ? O_SEEN_IN : O_LURES_BY);
                return true;
            }
            value = variableOf(kind, use);
            if (value == NONE) {
                return reader.fail(FAULT_TEXT, reader.start);
            }
            code.emit(VARIABLE + value);
            reader.advance();
            return true;
        }

        private static int variableOf(int kind, int use) {
            switch (kind) {
                case W_CURIOUS:
                    return V_CURIOUS;
                case W_WOOL:
                    return V_WOOL;
                case W_DAY:
                    return V_DAY;
                case W_LURE:
                    return use == LURES || use == STAYS ? V_LURE : NONE;
                case W_SEEN:
                    return use == LURES || use == STAYS ? V_SEEN : NONE;
                case W_MILES:
                    return use == LURES ? V_MILES : NONE;
                case W_CRIMP:
                    return use == WORTH || use == QUESTION ? V_CRIMP : NONE;
                case W_LED:
                    return use == WORTH || use == QUESTION ? V_LED : NONE;
                case W_NUMBER:
                    return use == QUESTION ? V_NUMBER : NONE;
                case W_AT:
                    return use == QUESTION ? V_AT : NONE;
                default:
                    return NONE;
            }
        }
    }

    /** Images: the latest that was written, and how one is read. */
    private static final class Picture {
        final byte[] bytes = new byte[MAX_IMAGE];
        int size;
        /** Where reading is, and whether all was small enough so far. */
        int at;
        boolean fits;

        void write(Upland land, State state) {
            size = 0;
            put(state.day, 2);
            put(state.purse, 3);
            for (int k = 0; k < land.gaps; k++) {
                put(state.open >> k & 1, 1);
            }
            for (int s = 0; s < land.sheep; s++) {
                put(state.field[s], 1);
                put(state.miles[s], 2);
                put(state.crimp[s], 1);
                put(state.led[s], 1);
                for (int f = 0; f < land.fields; f++) {
                    put(state.times[s * MAX_FIELDS + f], 1);
                }
            }
            put(checkOf(bytes, size), 1);
        }

        void put(int number, int count) {
            for (int shift = 8 * (count - 1); shift >= 0 && size < bytes.length; shift -= 8) {
                bytes[size] = (byte) (number >> shift);
                size++;
            }
        }

        static int checkOf(byte[] bytes, int count) {
            int check = 227;
            for (int i = 0; i < count && i < bytes.length; i++) {
                check = (3 * check + (bytes[i] & 255)) % 251;
            }
            return check;
        }

        /** False when it is no image of this upland; then what the state holds is of no use. */
        boolean read(byte[] tape, int length, Upland land, State into) {
            int due = 6 + land.gaps + land.sheep * (5 + land.fields);
            if (length != due || checkOf(tape, length - 1) != (tape[length - 1] & 255)) {
                return false;
            }
            at = 0;
            fits = true;
            into.day = take(tape, 2, MAX_DAY);
            into.purse = take(tape, 3, MAX_PURSE);
            into.open = 0;
            for (int k = 0; k < land.gaps; k++) {
                into.open |= take(tape, 1, 1) << k;
            }
            for (int s = 0; s < land.sheep; s++) {
                into.field[s] = take(tape, 1, land.fields - 1);
                into.miles[s] = take(tape, 2, MAX_MILES);
                into.crimp[s] = take(tape, 1, CRIMPS - 1);
                into.led[s] = take(tape, 1, 1);
                for (int f = 0; f < land.fields; f++) {
                    into.times[s * MAX_FIELDS + f] = take(tape, 1, MAX_TIMES);
                }
            }
            return fits;
        }

        int take(byte[] tape, int count, int most) {
            int number = 0;
            for (int i = 0; i < count && at < tape.length; i++) {
                number = number << 8 | tape[at] & 255;
                at++;
            }
            if (number > most) {
                fits = false;
                return 0;
            }
            return number;
        }
    }
}
