/** Programs that draw, and what comes of them, told exactly. README.md says how to use it. */
public final class ChanceSteps {

    public static final int NONE = -1, BAD = -2, STATE = -3, FULL = -4, WIDE = -6, VOID = -7;
    public static final long NO = -4611686018427387904L;

    private static final int MISSING = -11, OUTSIDE = -12, UNLIKE = -13, NEGATIVE = -14;
    private static final int FAULT = -100;

    private static final int NAMES = 6, EVERY_NAME = 63, VALUES = 10, STATES = 1000000;
    private static final int MOST_PROGRAMS = 6, MOST_STEPS = 16, MOST_LOTS = 8, MOST_OPEN = 4;
    private static final int MOST_BITS = 50, MOST_TURNS = 60, MOST_STATES = 300, MOST_SEEDS = 20;
    private static final int TAPE = 120, SHEETS = 4, MOST_CELLS = 40;
    private static final long WHOLE = 1L << MOST_BITS;

    // KINDS of STEPS, as the document numbers them
    private static final int DRAW = 0, LET = 1, SEE = 2, IF = 3, LOOP = 4, RUN = 5;

    // an E is kept as code for a stack: NUMBERS as they are, the others from these on
    private static final int CODE_NAME = 100, CODE_NEGATE = 150, CODE_SIGN = 200;

    // Six programs within one another, each with a text and four open blocks, are thirty levels.
    private static final int DEEPEST = 40;

    private final int[] tape = new int[TAPE];
    private int tapeSize;
    private final Program[] programs = new Program[MOST_PROGRAMS];
    private int programCount;
    private int start;
    private boolean imageKept;
    private int imageStart;
    private int imagePrograms;
    private final Sheet[] sheets = new Sheet[SHEETS];
    private final Reader reader = new Reader();
    private final Walker walker = new Walker();
    private final long[] firstRow = new long[VALUES];
    private final long[] secondRow = new long[VALUES];

    public ChanceSteps() {
        for (int i = 0; i < SHEETS; i++) {
            sheets[i] = new Sheet();
        }
    }

    // ---- programs

    public int feed(int n, int a, int b, int c, int d, int e) {
        if (n < 1 || n > 5 || !isByte(a) || !isByte(b) || !isByte(c) || !isByte(d) || !isByte(e)) {
            return BAD;
        }
        if (n > TAPE - tapeSize) {
            return FULL;
        }
        for (int i = 0; i < n; i++) {
            append(i == 0 ? a : i == 1 ? b : i == 2 ? c : i == 3 ? d : e);
        }
        return tapeSize;
    }

    public int program() {
        if (programCount >= MOST_PROGRAMS) {
            return FULL;
        }
        Program next = programs[programCount];
        if (next == null) {
            next = new Program();
            programs[programCount] = next;
        }
        int place = reader.faultOf(tape, tapeSize, next, programCount);
        tapeSize = 0;
        if (place != NONE) {
            return FAULT - place;
        }
        next.weigh(programs);
        if (next.bits > MOST_BITS || next.turns > MOST_TURNS) {
            return FULL;
        }
        programCount++;
        return programCount - 1;
    }

    public int let(int name, int v) {
        if (!isName(name) || !isValue(v)) {
            return BAD;
        }
        int was = digitAt(start, name);
        start = withDigit(start, name, v);
        return was;
    }

    public int told(int program, int what) {
        if (!isProgram(program) || what < 0 || what > 6) {
            return BAD;
        }
        Program asked = programs[program];
        switch (what) {
            case 0:
                return asked.size;
            case 1:
                return asked.bits;
            case 2:
                return asked.sees ? 1 : 0;
            case 3:
                return asked.names;
            case 4:
                return endOf(program) == null ? 1 : 0;
            case 5:
                Crowd end = endOf(program);
                return end == null ? WIDE : end.size;
            default:
                return asked.turns;
        }
    }

    public int step(int program, int step, int what) {
        if (!isProgram(program) || what < 0 || what > 5) {
            return BAD;
        }
        if (step < 0 || step >= programs[program].size) {
            return OUTSIDE;
        }
        Step asked = programs[program].stepAt(step);
        switch (what) {
            case 0:
                return asked.kind;
            case 1:
                return asked.name;
            case 2:
                return asked.inside;
            case 3:
                return asked.bits;
            case 4:
                return asked.seen;
            default:
                return asked.number;
        }
    }

    public int taken(int program, int step, int group) {
        if (!isProgram(program) || group < 0 || group > 2) {
            return BAD;
        }
        if (step < 0 || step >= programs[program].size) {
            return OUTSIDE;
        }
        int kind = programs[program].stepAt(step).kind;
        return isOfGroup(kind, group) ? kind : UNLIKE;
    }

    // ---- odds

    public long left(int program, int part) {
        if (!isProgram(program) || !isPart(part)) {
            return NO;
        }
        Crowd end = endOf(program);
        return end == null ? NO : partOf(end.weight(), WHOLE, part);
    }

    public long odds(int program, int name, int v, int part) {
        if (!isProgram(program) || !isName(name) || !isValue(v) || !isPart(part)) {
            return NO;
        }
        Crowd end = endOf(program);
        if (end == null || end.size == 0) {
            return NO;
        }
        end.spread(name, firstRow);
        return partOf(firstRow[v], end.weight(), part);
    }

    public long state(int program, int state, int part) {
        if (!isProgram(program) || state < 0 || state >= STATES || !isPart(part)) {
            return NO;
        }
        Crowd end = endOf(program);
        if (end == null || end.size == 0) {
            return NO;
        }
        return partOf(end.weightOf(packed(state)), end.weight(), part);
    }

    public long fold(int program, int name, int kind, int part) {
        if (!isProgram(program) || !isName(name) || kind < 0 || kind > 5 || !isPart(part)) {
            return NO;
        }
        Crowd end = endOf(program);
        if (end == null || end.size == 0) {
            return NO;
        }
        end.spread(name, firstRow);
        long sum = 0;
        for (int v = 0; v < VALUES; v++) {
            sum += firstRow[v] * foldedBy(kind, v);
        }
        return partOf(sum, end.weight(), part);
    }

    public int likeliest(int program, int name) {
        if (!isProgram(program) || name < 0 || name > NAMES) {
            return BAD;
        }
        Crowd end = endOf(program);
        if (end == null || end.size == 0) {
            return end == null ? WIDE : VOID;
        }
        if (name == NAMES) {
            return unpacked(end.likeliestState());
        }
        end.spread(name, firstRow);
        int best = 0;
        for (int v = 1; v < VALUES; v++) {
            best = firstRow[v] > firstRow[best] ? v : best;
        }
        return best;
    }

    public int apart(int program, int name, int other) {
        if (!isProgram(program) || !isName(name) || !isName(other)) {
            return BAD;
        }
        Crowd end = endOf(program);
        if (end == null || end.size == 0) {
            return end == null ? WIDE : VOID;
        }
        long all = end.weight();
        end.spread(other, firstRow);
        for (int v = 0; v < VALUES; v++) {
            long those = end.spreadWhere(name, v, other, secondRow);
            for (int w = 0; w < VALUES && those > 0; w++) {
                if (!isSameRatio(secondRow[w], those, firstRow[w], all)) {
                    return 0;
                }
            }
        }
        return 1;
    }

    public int needed(int program, int names) {
        if (!isProgram(program) || !areNames(names)) {
            return BAD;
        }
        Program asked = programs[program];
        return asked.neededFrom(0, asked.size, names);
    }

    public int peak(int program, int names) {
        if (!isProgram(program) || names != NONE && !areNames(names)) {
            return BAD;
        }
        return walker.mostAtOnce(programs[program], start, names);
    }

    public int alike(int program, int other) {
        if (!isProgram(program) || !isProgram(other)) {
            return BAD;
        }
        Crowd one = endOf(program);
        Crowd two = endOf(other);
        if (one == null || two == null) {
            return WIDE;
        }
        if (one.size == 0 || two.size == 0) {
            return VOID;
        }
        for (int name = 0; name < NAMES; name++) {
            one.spread(name, firstRow);
            two.spread(name, secondRow);
            for (int v = 0; v < VALUES; v++) {
                if (!isSameRatio(firstRow[v], one.weight(), secondRow[v], two.weight())) {
                    return 0;
                }
            }
        }
        return 1;
    }

    // ---- by seeds

    public int comes(int program, int seed) {
        if (!isProgram(program)) {
            return BAD;
        }
        int state = walker.comingBy(programs[program], start, seed);
        return state == NONE ? NONE : unpacked(state);
    }

    public int often(int program, int seed, int m, int name, int v, int part) {
        if (!isProgram(program) || m < 1 || m > MOST_SEEDS || !isName(name) || !isValue(v) || !isPart(part)) {
            return BAD;
        }
        int all = 0;
        int such = 0;
        for (int i = 0; i < m; i++) {
            int state = walker.comingBy(programs[program], start, seed + i);
            if (state != NONE) {
                all++;
                such += digitAt(state, name) == v ? 1 : 0;
            }
        }
        return all == 0 ? NONE : (int) partOf(such, all, part);
    }

    // ---- what was told

    public int tells(int sheet, int program, int name, int what) {
        if (!isSheet(sheet) || !isProgram(program) || !isName(name) || what < 0 || what > 3) {
            return BAD;
        }
        Crowd end = endOf(program);
        if (end == null || end.size == 0) {
            return end == null ? WIDE : VOID;
        }
        Sheet read = sheets[sheet];
        if (read.sort == NONE) {
            return MISSING;
        }
        if (read.size > VALUES) {
            return BAD;
        }
        switch (what) {
            case 0:
                return firstOtherwise(read, end, name);
            case 1:
                return programsThatTell(read, name);
            case 2:
                return namesThatTell(read, end);
            default:
                return startsThatTell(read, program, name);
        }
    }

    public int film(int sheet, int program, int name) {
        if (!isSheet(sheet) || !isProgram(program) || !isName(name)) {
            return BAD;
        }
        Crowd end = endOf(program);
        if (end == null || end.size == 0) {
            return end == null ? WIDE : VOID;
        }
        end.spread(name, firstRow);
        Sheet written = sheets[sheet];
        written.become(0, VALUES);
        for (int v = 0; v < VALUES; v++) {
            written.write(v, hundredths(firstRow[v], end.weight()));
        }
        return VALUES;
    }

    public int image() {
        imageKept = true;
        imageStart = start;
        imagePrograms = programCount;
        return programCount;
    }

    public int back() {
        if (!imageKept) {
            return STATE;
        }
        start = imageStart;
        programCount = imagePrograms;
        return programCount;
    }

    public int count(int what) {
        switch (what) {
            case 0:
                return programCount;
            case 1:
                return tapeSize;
            case 2:
                return unpacked(start);
            default:
                return BAD;
        }
    }

    // ---- the host

    public int sheet(int sheet, int sort, int n) {
        if (!isSheet(sheet) || sort < NONE || sort > 1) {
            return BAD;
        }
        if (sort == NONE) {
            sheets[sheet].become(NONE, 0);
            return 1;
        }
        if (n > MOST_CELLS) {
            return BAD;
        }
        if (n < 0) {
            return NEGATIVE;
        }
        sheets[sheet].become(sort, n);
        return 1;
    }

    public int cell(int sheet, int i, int v) {
        if (!isSheet(sheet)) {
            return BAD;
        }
        Sheet written = sheets[sheet];
        if (written.sort == NONE) {
            return MISSING;
        }
        if (i < 0 || i >= written.size) {
            return OUTSIDE;
        }
        written.write(i, v);
        return 1;
    }

    public int copy(int sheet, int i, int other, int j, int n) {
        if (!isSheet(sheet) || !isSheet(other)) {
            return BAD;
        }
        Sheet from = sheets[sheet];
        Sheet to = sheets[other];
        if (from.sort == NONE || to.sort == NONE) {
            return MISSING;
        }
        if (from.sort != to.sort) {
            return UNLIKE;
        }
        if (!from.hasRoom(i, n) || !to.hasRoom(j, n)) {
            return OUTSIDE;
        }
        System.arraycopy(from.cells, i, to.cells, j, n);
        return n;
    }

    // ---- what the calls ask of their numbers

    private static boolean isByte(int b) {
        return b >= 0 && b <= 255;
    }

    private static boolean isName(int name) {
        return name >= 0 && name < NAMES;
    }

    private static boolean areNames(int names) {
        return names >= 0 && names <= EVERY_NAME;
    }

    private static boolean isValue(int v) {
        return v >= 0 && v < VALUES;
    }

    private static boolean isPart(int part) {
        return part == 0 || part == 1;
    }

    private static boolean isSheet(int sheet) {
        return sheet >= 0 && sheet < SHEETS;
    }

    private boolean isProgram(int program) {
        return program >= 0 && program < programCount && program < MOST_PROGRAMS && programs[program] != null;
    }

    private static boolean isOfGroup(int kind, int group) {
        switch (group) {
            case 0:
                return kind == DRAW || kind == LET || kind == RUN;
            case 1:
                return kind == IF || kind == LOOP;
            default:
                return kind == LET || kind == SEE || kind == IF || kind == RUN;
        }
    }

    private void append(int b) {
        if (tapeSize < TAPE) {
            tape[tapeSize] = b;
            tapeSize++;
        }
    }

    // ---- what a program comes to

    /** The STATES at the end of a PROGRAM that there is; null: it is WIDE. */
    private Crowd endOf(int program) {
        return walker.endFrom(programs[program], start);
    }

    private static long foldedBy(int kind, int v) {
        switch (kind) {
            case 0:
                return v;
            case 1:
                return v * v;
            case 2:
                return 1 - v % 2;
            case 3:
                return v * v * v;
            case 4:
                return v % 2;
            default:
                return 9 - v;
        }
    }

    private int firstOtherwise(Sheet read, Crowd end, int name) {
        end.spread(name, firstRow);
        for (int v = 0; v < VALUES && v < read.size; v++) {
            if (read.cells[v] != hundredths(firstRow[v], end.weight())) {
                return v;
            }
        }
        return NONE;
    }

    private boolean wouldTell(Sheet read, Crowd end, int name) {
        return end != null && end.size > 0 && firstOtherwise(read, end, name) == NONE;
    }

    private int programsThatTell(Sheet read, int name) {
        int bits = 0;
        for (int p = 0; p < MOST_PROGRAMS; p++) {
            bits |= isProgram(p) && wouldTell(read, walker.endFrom(programs[p], start), name) ? 1 << p : 0;
        }
        return bits;
    }

    private int namesThatTell(Sheet read, Crowd end) {
        int bits = 0;
        for (int name = 0; name < NAMES; name++) {
            bits |= wouldTell(read, end, name) ? 1 << name : 0;
        }
        return bits;
    }

    private int startsThatTell(Sheet read, int program, int name) {
        int bits = 0;
        // a's own VALUE comes last, as the walker keeps the last end that was asked for
        int own = digitAt(start, 0);
        for (int i = 1; i <= VALUES; i++) {
            int v = (own + i) % VALUES;
            Crowd end = walker.endFrom(programs[program], withDigit(start, 0, v));
            bits |= wouldTell(read, end, name) ? 1 << v : 0;
        }
        return bits;
    }

    // ---- ratios

    private static long divisorOf(long x, long y) {
        long a = x;
        long b = y;
        // Two numbers below 2 to the 63rd need fewer than a hundred rounds.
        for (int n = 0; n < 200 && b != 0; n++) {
            long rest = a % b;
            a = b;
            b = rest;
        }
        return a > 0 ? a : 1;
    }

    private static long partOf(long above, long below, int part) {
        long divisor = divisorOf(above, below);
        return divisor == 0 ? NO : (part == 0 ? above : below) / divisor;
    }

    /** By lowest terms, as the products of WEIGHTS are too long for a long. */
    private static boolean isSameRatio(long above, long below, long otherAbove, long otherBelow) {
        return partOf(above, below, 0) == partOf(otherAbove, otherBelow, 0)
            && partOf(above, below, 1) == partOf(otherAbove, otherBelow, 1);
    }

    private static int hundredths(long weight, long all) {
        return all == 0 ? 0 : (int) (100 * weight / all);
    }

    // ---- STATES, held with four bits for each NAME, a's the highest

    private static int shiftOf(int name) {
        return (NAMES - 1 - name) * 4;
    }

    // As shiftOf, but written out: no way from the face may be deeper than eight calls.
    private static int digitAt(int state, int name) {
        return (state >>> ((NAMES - 1 - name) * 4)) & 15;
    }

    private static int withDigit(int state, int name, int v) {
        return (state & ~(15 << shiftOf(name))) | (v << shiftOf(name));
    }

    private static int packed(int digits) {
        int state = 0;
        int rest = digits;
        for (int name = NAMES - 1; name >= 0; name--) {
            state |= (rest % 10) << shiftOf(name);
            rest /= 10;
        }
        return state;
    }

    private static int unpacked(int state) {
        int digits = 0;
        for (int name = 0; name < NAMES; name++) {
            digits = digits * 10 + digitAt(state, name);
        }
        return digits;
    }

    /** What of a STATE stays, if all other NAMES are FORGOTTEN (NONE: nothing is). */
    private static int maskOf(int names) {
        int mask = 0;
        for (int name = 0; name < NAMES; name++) {
            mask |= names == NONE || ((names >> name) & 1) == 1 ? 15 << shiftOf(name) : 0;
        }
        return mask;
    }

    /** A row of numbers that the host writes, or none. */
    private static final class Sheet {
        final int[] cells = new int[MOST_CELLS];
        int sort = NONE;
        int size;

        void become(int newSort, int n) {
            sort = newSort;
            size = n;
            for (int i = 0; i < MOST_CELLS; i++) {
                cells[i] = 0;
            }
        }

        void write(int i, int v) {
            if (i >= 0 && i < size && i < MOST_CELLS) {
                cells[i] = sort == 0 ? v & 255 : v;
            }
        }

        boolean hasRoom(int i, int n) {
            return n >= 0 && n <= size && i >= 0 && i <= size - n;
        }
    }

    /** One STEP, with where its E, its LOTS and its BLOCKS stand in its PROGRAM. */
    private static final class Step {
        int kind;
        int name;
        int number;
        int inside;
        int level;
        int second;
        int seen;
        int bits;
        int turns;
        int codeFrom;
        int codeTo;
        int lotFrom;
        boolean sees;
        Program ran;

        void begin(int newKind, int newLevel) {
            kind = newKind;
            level = newLevel;
            name = NONE;
            number = NONE;
            inside = 1;
            second = 0;
            seen = 0;
            bits = 0;
            turns = 1;
            codeFrom = 0;
            codeTo = 0;
            lotFrom = 0;
            sees = false;
            ran = null;
        }
    }

    /** The STEPS of a text in their order; those of a BLOCK stand behind the STEP that has it. */
    private static final class Program {
        private final Step[] steps = new Step[MOST_STEPS];
        int size;
        private final int[] code = new int[TAPE];
        int codeSize;
        private final int[] lotValues = new int[TAPE / 2];
        private final int[] lotWeights = new int[TAPE / 2];
        int lotSize;
        private final int[] stack = new int[TAPE];
        int bits;
        int turns;
        int names;
        boolean sees;
        final Runs runs = new Runs();
        Crowd end;
        int endStart = NONE;
        boolean endFits;

        Program() {
            for (int i = 0; i < MOST_STEPS; i++) {
                steps[i] = new Step();
            }
        }

        void clear() {
            size = 0;
            codeSize = 0;
            lotSize = 0;
            endStart = NONE;
            runs.clear();
        }

        Step stepAt(int i) {
            return steps[i >= 0 && i < MOST_STEPS ? i : 0];
        }

        Step beginStep(int kind, int level) {
            Step begun = stepAt(size);
            begun.begin(kind, level);
            size = size < MOST_STEPS ? size + 1 : size;
            return begun;
        }

        void emit(int c) {
            if (codeSize < TAPE) {
                code[codeSize] = c;
                codeSize++;
            }
        }

        void addLot(int value, int weight) {
            if (lotSize < lotValues.length && lotSize < lotWeights.length) {
                lotValues[lotSize] = value;
                lotWeights[lotSize] = weight;
                lotSize++;
            }
        }

        int lotValue(Step draw, int lot) {
            int i = draw.lotFrom + lot;
            return i >= 0 && i < lotValues.length ? lotValues[i] : 0;
        }

        int lotWeight(Step draw, int lot) {
            int i = draw.lotFrom + lot;
            return i >= 0 && i < lotWeights.length ? lotWeights[i] : 0;
        }

        int behind(int i) {
            return i + Math.max(1, stepAt(i).inside);
        }

        // ---- what it comes to as a text

        void weigh(Program[] others) {
            names = 0;
            sees = false;
            for (int i = size - 1; i >= 0; i--) {
                Step s = stepAt(i);
                weighStep(s, i, others);
                names |= s.seen | (s.name == NONE ? 0 : 1 << s.name);
                sees |= s.sees;
            }
            bits = bitsOf(0, size);
            turns = turnsOf(0, size);
        }

        private void weighStep(Step s, int i, Program[] others) {
            int last = behind(i);
            if (s.kind == SEE) {
                s.sees = true;
            } else if (s.kind == IF) {
                s.bits = Math.max(bitsOf(i + 1, s.second), bitsOf(s.second, last));
                s.turns = 1 + turnsOf(i + 1, s.second) + turnsOf(s.second, last);
            } else if (s.kind == LOOP) {
                s.bits = s.number * bitsOf(i + 1, last);
                s.turns = 1 + s.number * turnsOf(i + 1, last);
            } else if (s.kind == RUN && s.number >= 0 && s.number < others.length) {
                s.ran = others[s.number];
                if (s.ran != null) {
                    s.bits = s.ran.bits;
                    s.turns = 1 + s.ran.turns;
                    s.sees = s.ran.sees;
                }
            }
        }

        private int bitsOf(int from, int to) {
            int sum = 0;
            for (int i = from; i < to; i++) {
                sum += stepAt(i).level == stepAt(from).level ? stepAt(i).bits : 0;
            }
            return sum;
        }

        private int turnsOf(int from, int to) {
            int sum = 0;
            for (int i = from; i < to; i++) {
                sum += stepAt(i).level == stepAt(from).level ? stepAt(i).turns : 0;
            }
            return sum;
        }

        // ---- which NAMES are NEEDED

        /** What is NEEDED ahead of the STEPS of a BLOCK from this one on, by what is behind its last. */
        int neededFrom(int from, int to, int behind) {
            return neededAhead(from, to, behind, 0);
        }

        /** What is NEEDED ahead of a LOOP of which so many times are to come. */
        int neededFromTimes(int i, int times, int behind) {
            return neededAheadOfTimes(i, times, behind, 0);
        }

        private int neededAhead(int from, int to, int behind, int depth) {
            int set = behind;
            for (int i = to - 1; i >= from && depth <= MOST_OPEN; i--) {
                if (stepAt(i).level == stepAt(from).level) {
                    set = neededAheadOf(i, set, depth);
                }
            }
            return set;
        }

        private int neededAheadOf(int i, int behind, int depth) {
            Step s = stepAt(i);
            int last = behind(i);
            int others = s.name == NONE ? behind : behind & ~(1 << s.name);
            switch (s.kind) {
                case DRAW:
                    return others;
                case LET:
                    return others == behind ? behind : others | s.seen;
                case SEE:
                    return behind | s.seen;
                case IF:
                    return s.seen | neededAhead(i + 1, s.second, behind, depth + 1)
                        | neededAhead(s.second, last, behind, depth + 1);
                case LOOP:
                    return neededAheadOfTimes(i, s.number, behind, depth);
                default:
                    return others == behind && !s.sees ? behind : others | s.seen;
            }
        }

        private int neededAheadOfTimes(int i, int times, int behind, int depth) {
            int set = behind;
            for (int n = 0; n < times; n++) {
                set = neededAhead(i + 1, behind(i), set, depth + 1);
            }
            return set;
        }

        // ---- what its E says

        int valueOf(Step s, int state) {
            int top = 0;
            for (int i = Math.max(0, s.codeFrom); i < s.codeTo && i < TAPE; i++) {
                int c = code[i];
                if (c >= CODE_SIGN) {
                    if (top > 1 && top <= TAPE) {
                        top--;
                        stack[top - 1] = joined(c - CODE_SIGN, stack[top - 1], stack[top]);
                    }
                } else if (c == CODE_NEGATE) {
                    if (top > 0 && top <= TAPE) {
                        stack[top - 1] = -stack[top - 1];
                    }
                } else if (top < TAPE) {
                    stack[top] = c >= CODE_NAME ? digitAt(state, c - CODE_NAME) : c;
                    top++;
                }
            }
            return stack[0];
        }

        int digitOf(Step s, int state) {
            return Math.floorMod(valueOf(s, state), VALUES);
        }

        private static int joined(int sign, int x, int y) {
            switch (sign) {
                case '+':
                    return x + y;
                case '-':
                    return x - y;
                case '*':
                    return x * y;
                case '%':
                    return y == 0 ? 0 : x % y;
                case '<':
                    return x < y ? 1 : 0;
                default:
                    return x == y ? 1 : 0;
            }
        }
    }

    /** By how much a has which VALUE, where a PROGRAM ends that is RUN with a DIGIT. */
    private static final class Runs {
        private static final int UNKNOWN = 0, TOLD = 1, TOO_WIDE = 2;
        private final int[] standing = new int[VALUES];
        private final long[] weights = new long[VALUES * VALUES];
        private final long[] row = new long[VALUES];

        void clear() {
            for (int i = 0; i < VALUES; i++) {
                standing[i] = UNKNOWN;
            }
        }

        boolean isKnown(int digit) {
            return isValue(digit) && standing[digit] != UNKNOWN;
        }

        boolean fits(int digit) {
            return isValue(digit) && standing[digit] == TOLD;
        }

        long weight(int digit, int v) {
            return isValue(digit) && isValue(v) ? weights[digit * VALUES + v] : 0;
        }

        void keep(int digit, Crowd end, boolean fits) {
            if (!isValue(digit)) {
                return;
            }
            standing[digit] = fits ? TOLD : TOO_WIDE;
            end.spread(0, row);
            for (int v = 0; v < VALUES; v++) {
                weights[digit * VALUES + v] = row[v];
            }
        }
    }

    /** Reads a text, TOKEN by TOKEN; where it stops, its place is the FAULT's. */
    private static final class Reader {
        private static final int END = 0, NAME = 1, KEY = 2, NUMBER = 3, SIGN = 4, BROKEN = 5;
        private int[] text;
        private int size;
        private Program program;
        private int others;
        private int at;
        private int open;
        private int place;
        private int sort;
        private int value;

        int faultOf(int[] tape, int tapeSize, Program written, int programs) {
            text = tape;
            size = Math.min(tapeSize, tape.length);
            program = written;
            program.clear();
            others = programs;
            at = 0;
            open = 0;
            advance();
            return readBlock() && sort == END ? NONE : place;
        }

        // ---- STEPS

        private boolean readBlock() {
            if (!readStep()) {
                return false;
            }
            for (int n = 0; n < TAPE && isSign(';'); n++) {
                advance();
                if (!readStep()) {
                    return false;
                }
            }
            return true;
        }

        private boolean readStep() {
            if (sort != KEY || program.size >= MOST_STEPS) {
                return false;
            }
            int first = program.size;
            Step s = program.beginStep(value, open);
            advance();
            boolean stands = readRest(s);
            s.inside = program.size - first;
            return stands;
        }

        private boolean readRest(Step s) {
            switch (s.kind) {
                case DRAW:
                    return readName(s) && readLots(s);
                case LET:
                    return readName(s) && readFormula(s);
                case SEE:
                    return readFormula(s);
                case IF:
                    return readFormula(s) && readBraces() && readSecond(s);
                case LOOP:
                    return readNumber(s, VALUES) && readBraces();
                default:
                    return readName(s) && readNumber(s, others) && readFormula(s);
            }
        }

        private boolean readName(Step s) {
            if (sort != NAME) {
                return false;
            }
            s.name = value;
            advance();
            return true;
        }

        private boolean readNumber(Step s, int below) {
            if (sort != NUMBER || value >= below) {
                return false;
            }
            s.number = value;
            advance();
            return true;
        }

        private boolean readSecond(Step s) {
            s.second = program.size;
            return readBraces();
        }

        private boolean readBraces() {
            if (!isSign('{') || open >= MOST_OPEN) {
                return false;
            }
            open++;
            advance();
            if (!readBlock() || !isSign('}')) {
                return false;
            }
            open--;
            advance();
            return true;
        }

        // ---- LOTS

        private boolean readLots(Step s) {
            s.lotFrom = program.lotSize;
            int all = readLot();
            int lots = 1;
            for (int n = 0; n < MOST_LOTS && all > 0 && isSign(','); n++) {
                if (lots >= MOST_LOTS) {
                    return false;
                }
                advance();
                int weight = readLot();
                all = weight == 0 ? 0 : all + weight;
                lots++;
            }
            s.number = lots;
            s.bits = all == 2 ? 1 : all == 4 ? 2 : all == 8 ? 3 : all == 16 ? 4 : 0;
            return s.bits > 0;
        }

        /** Its WEIGHT; 0: it is none, or not as told. */
        private int readLot() {
            int v = value;
            if (sort != NUMBER || v >= VALUES) {
                return 0;
            }
            advance();
            if (!isSign(':')) {
                return 0;
            }
            advance();
            int weight = value;
            if (sort != NUMBER || weight < 1 || weight > 16) {
                return 0;
            }
            advance();
            program.addLot(v, weight);
            return weight;
        }

        // ---- an E

        private boolean readFormula(Step s) {
            s.codeFrom = program.codeSize;
            boolean stands = readComparison(s);
            s.codeTo = program.codeSize;
            return stands;
        }

        private boolean readComparison(Step s) {
            if (!readSum(s)) {
                return false;
            }
            if (!isSign('<') && !isSign('=')) {
                return true;
            }
            int sign = value;
            advance();
            boolean stands = readSum(s);
            program.emit(CODE_SIGN + sign);
            return stands;
        }

        private boolean readSum(Step s) {
            boolean stands = readTerm(s);
            for (int n = 0; n < TAPE && stands && (isSign('+') || isSign('-')); n++) {
                int sign = value;
                advance();
                stands = readTerm(s);
                program.emit(CODE_SIGN + sign);
            }
            return stands;
        }

        private boolean readTerm(Step s) {
            boolean stands = readOne(s);
            for (int n = 0; n < TAPE && stands && (isSign('*') || isSign('%')); n++) {
                int sign = value;
                advance();
                stands = readOne(s);
                program.emit(CODE_SIGN + sign);
            }
            return stands;
        }

        private boolean readOne(Step s) {
            if (sort == NUMBER) {
                program.emit(value);
                advance();
                return true;
            }
            if (sort == NAME) {
                s.seen |= 1 << value;
                program.emit(CODE_NAME + value);
                advance();
                return true;
            }
            if (!isSign('-') && !isSign('(') || open >= MOST_OPEN) {
                return false;
            }
            boolean negates = isSign('-');
            open++;
            advance();
            boolean stands = negates ? readOne(s) : readComparison(s) && isSign(')');
            open--;
            if (stands && negates) {
                program.emit(CODE_NEGATE);
            } else if (stands) {
                advance();
            }
            return stands;
        }

        // ---- TOKENS

        private boolean isSign(int sign) {
            return sort == SIGN && value == sign;
        }

        private int byteAt(int i) {
            return i >= 0 && i < size ? text[i] : NONE;
        }

        private void advance() {
            while (at < size && (byteAt(at) == 32 || byteAt(at) == 10)) {
                at++;
            }
            place = at;
            value = 0;
            if (at >= size) {
                sort = END;
            } else if (isLetter(byteAt(at))) {
                takeWord();
            } else if (isDigit(byteAt(at))) {
                takeNumber();
            } else {
                takeSign();
            }
        }

        private void takeWord() {
            while (at < size && isLetter(byteAt(at))) {
                at++;
            }
            sort = BROKEN;
            if (at - place == 1 && byteAt(place) <= 'f') {
                sort = NAME;
                value = byteAt(place) - 'a';
            }
            for (int kind = DRAW; kind <= RUN; kind++) {
                if (isSpelt(wordOf(kind))) {
                    sort = KEY;
                    value = kind;
                }
            }
        }

        private void takeNumber() {
            while (at < size && isDigit(byteAt(at))) {
                at++;
            }
            sort = at - place > 2 ? BROKEN : NUMBER;
            for (int i = place; i < at && sort == NUMBER; i++) {
                value = value * 10 + byteAt(i) - '0';
            }
        }

        private void takeSign() {
            value = byteAt(at);
            at++;
            switch (value) {
                case ';': case '{': case '}': case '(': case ')': case '+': case '-':
                case '*': case '%': case '<': case '=': case ',': case ':':
                    sort = SIGN;
                    break;
                default:
                    sort = BROKEN;
            }
        }

        private static boolean isLetter(int b) {
            return b >= 'a' && b <= 'z';
        }

        private static boolean isDigit(int b) {
            return b >= '0' && b <= '9';
        }

        private static String wordOf(int kind) {
            switch (kind) {
                case DRAW:
                    return "draw";
                case LET:
                    return "let";
                case SEE:
                    return "see";
                case IF:
                    return "if";
                case LOOP:
                    return "loop";
                default:
                    return "run";
            }
        }

        private boolean isSpelt(String word) {
            boolean same = word.length() == at - place && place >= 0 && at <= size;
            for (int i = 0; i < word.length() && same; i++) {
                same = text[place + i] == word.charAt(i);
            }
            return same;
        }
    }

    /** STATES with their WEIGHTS, each STATE once. */
    private static final class Crowd {
        int[] states = new int[MOST_STATES];
        long[] weights = new long[MOST_STATES];
        int size;
        int most;

        void begin(int state) {
            size = 0;
            add(state, WHOLE);
            most = 1;
        }

        void add(int state, long weight) {
            if (size < MOST_STATES) {
                states[size] = state;
                weights[size] = weight;
                size++;
            }
        }

        long weight() {
            long sum = 0;
            for (int i = 0; i < size && i < MOST_STATES; i++) {
                sum += weights[i];
            }
            return sum;
        }

        long weightOf(int state) {
            for (int i = 0; i < size && i < MOST_STATES; i++) {
                if (states[i] == state) {
                    return weights[i];
                }
            }
            return 0;
        }

        int likeliestState() {
            int best = 0;
            for (int i = 1; i < size && i < MOST_STATES; i++) {
                boolean like = weights[i] == weights[best];
                if (weights[i] > weights[best] || like && states[i] < states[best]) {
                    best = i;
                }
            }
            return states[best];
        }

        /** The WEIGHTS of a NAME's VALUES come into the row. */
        void spread(int name, long[] row) {
            for (int v = 0; v < row.length; v++) {
                row[v] = 0;
            }
            for (int i = 0; i < size && i < MOST_STATES; i++) {
                int v = digitAt(states[i], name);
                if (v < row.length) {
                    row[v] += weights[i];
                }
            }
        }

        /** The same of those STATES in which another NAME has a VALUE: their WEIGHT. */
        long spreadWhere(int given, int is, int name, long[] row) {
            long sum = 0;
            for (int v = 0; v < row.length; v++) {
                row[v] = 0;
            }
            for (int i = 0; i < size && i < MOST_STATES; i++) {
                int v = digitAt(states[i], name);
                if (digitAt(states[i], given) == is && v < row.length) {
                    row[v] += weights[i];
                    sum += weights[i];
                }
            }
            return sum;
        }
    }

    /** Where the STATES behind a STEP come together; like ones are found by a table. */
    private static final class Mixer {
        private static final int SLOTS = 1024, SPREAD = -1640531535;
        private int[] states = new int[MOST_STATES];
        private long[] weights = new long[MOST_STATES];
        private int size;
        // A slot is in use if it names a STATE whose home it is: so nothing need be cleared.
        private final int[] slots = new int[SLOTS];
        private final int[] homes = new int[MOST_STATES];

        void clear() {
            size = 0;
        }

        /** False: there are too many. */
        boolean put(int state, long weight) {
            int slot = (state * SPREAD) >>> 22;
            for (int n = 0; n < SLOTS; n++) {
                int i = slots[slot];
                if (i < 0 || i >= size || i >= MOST_STATES || homes[i] != slot) {
                    return putNew(state, weight, slot);
                }
                if (states[i] == state) {
                    weights[i] += weight;
                    return true;
                }
                slot = (slot + 1) & (SLOTS - 1);
            }
            return false;
        }

        private boolean putNew(int state, long weight, int slot) {
            if (size >= MOST_STATES) {
                return false;
            }
            states[size] = state;
            weights[size] = weight;
            homes[size] = slot;
            slots[slot] = size;
            size++;
            return true;
        }

        boolean putAll(Crowd crowd, int mask) {
            boolean fits = true;
            for (int i = 0; i < crowd.size && i < MOST_STATES && fits; i++) {
                fits = put(crowd.states[i] & mask, crowd.weights[i]);
            }
            return fits;
        }

        /** What is here becomes the crowd. */
        void pourInto(Crowd crowd) {
            int[] oldStates = crowd.states;
            long[] oldWeights = crowd.weights;
            crowd.states = states;
            crowd.weights = weights;
            crowd.size = size;
            crowd.most = Math.max(crowd.most, size);
            states = oldStates;
            weights = oldWeights;
            size = 0;
        }
    }

    /** Goes through PROGRAMS: with all STATES at once, or with one by a SEED. */
    private static final class Walker {
        private final Mixer mixer = new Mixer();
        private final Crowd[] spare = new Crowd[DEEPEST];
        private int lent;
        private int z;

        /** The STATES at the end; null: it is WIDE. */
        Crowd endFrom(Program p, int start) {
            if (p.end == null) {
                p.end = new Crowd();
            }
            if (p.endStart != start) {
                p.endStart = start;
                p.end.begin(start);
                p.endFits = walkBlock(p, 0, p.size, p.end, NONE, 0);
            }
            return p.endFits ? p.end : null;
        }

        int mostAtOnce(Program p, int start, int names) {
            if (names == NONE) {
                Crowd end = endFrom(p, start);
                return end == null ? WIDE : end.most;
            }
            Crowd crowd = lend();
            if (crowd == null) {
                return WIDE;
            }
            crowd.begin(start & maskOf(p.neededFrom(0, p.size, names)));
            boolean fits = walkBlock(p, 0, p.size, crowd, names, 0);
            giveBack();
            return fits ? crowd.most : WIDE;
        }

        private Crowd lend() {
            if (lent < 0 || lent >= spare.length) {
                return null;
            }
            if (spare[lent] == null) {
                spare[lent] = new Crowd();
            }
            lent++;
            return spare[lent - 1];
        }

        private void giveBack() {
            lent = Math.max(0, lent - 1);
        }

        // ---- with all STATES at once: false, if there are too many

        /** What is kept behind the BLOCK: the NAMES that are NEEDED there, or NONE: nothing is FORGOTTEN. */
        private boolean walkBlock(Program p, int from, int to, Crowd crowd, int kept, int depth) {
            boolean fits = depth <= DEEPEST;
            int i = from;
            for (int n = 0; n < MOST_STEPS && i < to && fits; n++) {
                int next = p.behind(i);
                int keptHere = kept == NONE ? NONE : p.neededFrom(next, to, kept);
                fits = walkStep(p, i, crowd, keptHere, depth);
                i = next;
            }
            return fits;
        }

        private boolean walkStep(Program p, int i, Crowd crowd, int kept, int depth) {
            Step s = p.stepAt(i);
            switch (s.kind) {
                case DRAW:
                    return walkDraw(p, s, crowd, maskOf(kept));
                case LET:
                    return walkLet(p, s, crowd, maskOf(kept));
                case SEE:
                    return walkSee(p, s, crowd, maskOf(kept));
                case IF:
                    return walkIf(p, i, crowd, kept, depth);
                case LOOP:
                    return walkLoop(p, i, crowd, kept, depth);
                default:
                    return walkRun(p, s, crowd, kept, depth);
            }
        }

        private boolean walkDraw(Program p, Step s, Crowd crowd, int mask) {
            mixer.clear();
            for (int i = 0; i < crowd.size && i < MOST_STATES; i++) {
                for (int lot = 0; lot < s.number && lot < MOST_LOTS; lot++) {
                    int state = withDigit(crowd.states[i], s.name, p.lotValue(s, lot));
                    long weight = (crowd.weights[i] * p.lotWeight(s, lot)) >> s.bits;
                    if (!mixer.put(state & mask, weight)) {
                        return false;
                    }
                }
            }
            mixer.pourInto(crowd);
            return true;
        }

        private boolean walkLet(Program p, Step s, Crowd crowd, int mask) {
            mixer.clear();
            for (int i = 0; i < crowd.size && i < MOST_STATES; i++) {
                int state = crowd.states[i];
                if (!mixer.put(withDigit(state, s.name, p.digitOf(s, state)) & mask, crowd.weights[i])) {
                    return false;
                }
            }
            mixer.pourInto(crowd);
            return true;
        }

        private boolean walkSee(Program p, Step s, Crowd crowd, int mask) {
            mixer.clear();
            for (int i = 0; i < crowd.size && i < MOST_STATES; i++) {
                int state = crowd.states[i];
                if (p.valueOf(s, state) != 0 && !mixer.put(state & mask, crowd.weights[i])) {
                    return false;
                }
            }
            mixer.pourInto(crowd);
            return true;
        }

        private boolean walkIf(Program p, int i, Crowd crowd, int kept, int depth) {
            Crowd other = lend();
            if (other == null) {
                return false;
            }
            Step s = p.stepAt(i);
            split(p, s, crowd, other);
            boolean fits = walkBlock(p, i + 1, s.second, crowd, kept, depth + 1)
                && walkBlock(p, s.second, p.behind(i), other, kept, depth + 1);
            giveBack();
            mixer.clear();
            if (!fits || !mixer.putAll(crowd, maskOf(kept)) || !mixer.putAll(other, maskOf(kept))) {
                return false;
            }
            crowd.most = Math.max(crowd.most, other.most);
            mixer.pourInto(crowd);
            return true;
        }

        /** Those for which the E is 0 go over to the other crowd. */
        private void split(Program p, Step s, Crowd crowd, Crowd other) {
            int all = crowd.size;
            crowd.size = 0;
            other.size = 0;
            other.most = 0;
            for (int i = 0; i < all && i < MOST_STATES; i++) {
                Crowd side = p.valueOf(s, crowd.states[i]) != 0 ? crowd : other;
                side.add(crowd.states[i], crowd.weights[i]);
            }
        }

        private boolean walkLoop(Program p, int i, Crowd crowd, int kept, int depth) {
            int times = p.stepAt(i).number;
            boolean fits = true;
            for (int n = 1; n <= times && fits; n++) {
                int keptHere = kept == NONE ? NONE : p.neededFromTimes(i, times - n, kept);
                fits = walkBlock(p, i + 1, p.behind(i), crowd, keptHere, depth + 1);
            }
            return fits && forget(crowd, kept);
        }

        private boolean forget(Crowd crowd, int kept) {
            mixer.clear();
            boolean fits = mixer.putAll(crowd, maskOf(kept));
            mixer.pourInto(crowd);
            return fits;
        }

        private boolean walkRun(Program p, Step s, Crowd crowd, int kept, int depth) {
            if (kept != NONE && ((kept >> s.name) & 1) == 0 && !s.sees) {
                return forget(crowd, kept);
            }
            Program ran = s.ran;
            if (ran == null || !canRun(p, s, crowd, ran, depth)) {
                return false;
            }
            int mask = maskOf(kept);
            mixer.clear();
            for (int i = 0; i < crowd.size && i < MOST_STATES; i++) {
                int digit = p.digitOf(s, crowd.states[i]);
                // All BITS together are 50 at most, so this WEIGHT has those of what is RUN to spare.
                long share = crowd.weights[i] >> ran.bits;
                for (int v = 0; v < VALUES; v++) {
                    long weight = share * (ran.runs.weight(digit, v) >> (MOST_BITS - ran.bits));
                    if (weight > 0 && !mixer.put(withDigit(crowd.states[i], s.name, v) & mask, weight)) {
                        return false;
                    }
                }
            }
            mixer.pourInto(crowd);
            return true;
        }

        /** All that these STATES RUN is gone through first, as it needs the mixer too. */
        private boolean canRun(Program p, Step s, Crowd crowd, Program ran, int depth) {
            boolean fits = true;
            for (int i = 0; i < crowd.size && i < MOST_STATES && fits; i++) {
                int digit = p.digitOf(s, crowd.states[i]);
                if (!ran.runs.isKnown(digit)) {
                    walkWhole(ran, digit, depth + 1);
                }
                fits = ran.runs.fits(digit);
            }
            return fits;
        }

        private void walkWhole(Program ran, int digit, int depth) {
            Crowd crowd = lend();
            if (crowd == null) {
                return;
            }
            crowd.begin(withDigit(0, 0, digit));
            boolean fits = walkBlock(ran, 0, ran.size, crowd, NONE, depth);
            ran.runs.keep(digit, crowd, fits);
            giveBack();
        }

        // ---- with one STATE by a SEED: NONE, if nothing COMES

        int comingBy(Program p, int start, int seed) {
            z = seed;
            return followBlock(p, 0, p.size, start, 0);
        }

        private int followBlock(Program p, int from, int to, int state, int depth) {
            int now = depth <= DEEPEST ? state : NONE;
            int i = from;
            for (int n = 0; n < MOST_STEPS && i < to && now != NONE; n++) {
                now = followStep(p, i, now, depth);
                i = p.behind(i);
            }
            return now;
        }

        private int followStep(Program p, int i, int state, int depth) {
            Step s = p.stepAt(i);
            switch (s.kind) {
                case DRAW:
                    return withDigit(state, s.name, drawn(p, s));
                case LET:
                    return withDigit(state, s.name, p.digitOf(s, state));
                case SEE:
                    return p.valueOf(s, state) != 0 ? state : NONE;
                case IF:
                    return p.valueOf(s, state) != 0
                        ? followBlock(p, i + 1, s.second, state, depth + 1)
                        : followBlock(p, s.second, p.behind(i), state, depth + 1);
                case LOOP:
                    return followLoop(p, i, state, depth);
                default:
                    return followRun(p, s, state, depth);
            }
        }

        private int drawn(Program p, Step s) {
            z = z * 1103515245 + 12345;
            // what the WEIGHTS come to is a power of two, so what is left by it is the lowest bits
            int rest = (z >>> 9) & ((1 << s.bits) - 1);
            int lot = 0;
            for (int n = 0; n < MOST_LOTS && rest >= p.lotWeight(s, lot); n++) {
                rest -= p.lotWeight(s, lot);
                lot++;
            }
            return p.lotValue(s, lot);
        }

        private int followLoop(Program p, int i, int state, int depth) {
            int now = state;
            int times = p.stepAt(i).number;
            for (int n = 0; n < times && now != NONE; n++) {
                now = followBlock(p, i + 1, p.behind(i), now, depth + 1);
            }
            return now;
        }

        private int followRun(Program p, Step s, int state, int depth) {
            Program ran = s.ran;
            if (ran == null) {
                return NONE;
            }
            int begun = withDigit(0, 0, p.digitOf(s, state));
            int end = followBlock(ran, 0, ran.size, begun, depth + 1);
            return end == NONE ? NONE : withDigit(state, s.name, digitAt(end, 0));
        }
    }
}
